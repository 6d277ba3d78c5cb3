/-! sheets and the row; copies -/
theorem pu_load (N : Nat) (hN : 25000 ≤ N) {i : Nat} (hi : i < 4) (a2 lf : Int32) (g : Nat → Option Nat) (cb mb : Nat → Int32) (sl sf ss : Nat → Int32) (si : Nat → Nat → Int32) (hT hF hS hI : Nat → Int32) (hB : RB cb mb) (hH : RH sl sf ss si hT hF hS hI) :
    ∃ (r lf' : Int32) (cb' mb' : Nat → Int32), f_X6_load_S N (nI i) a2 lf cb g (sl i) (ss i) (si i) = some (r, lf', cb') ∧ f_X7_load N (nI i) a2 lf mb hT hS hI = some (r, lf', mb') ∧ RB cb' mb' := by
  obtain ⟨⟨t, q1, q2⟩, q3, ⟨z, q4, q5, q6⟩, q7⟩ := hH i hi
  unfold f_X6_load_S f_X7_load
  rw [isSheet_in hi, bd1_t, if_neg i1n0]
  rcases box_or a2 with ⟨q, hq, rfl⟩ | h
  · rw [isBox_in hq, in_box hq, bd1_t, bd1_t, if_neg i1n0, if_neg i1n0]
    cases t
    · simp only [Bool.not_true, Bool.not_false, bI_t, bI_f] at q1 q2
      simp only [n4 hi, ck_t, nI_clamp (show i < 2 ^ 31 by omega), q1, q2, i00, i10, ↓reduceIte, find_eq, meets_eq, bd2_t]
      exact ⟨_, _, _, _, rfl, rfl, hB⟩
    · simp only [Bool.not_true, Bool.not_false, bI_t, bI_f] at q1 q2
      simp only [n4 hi, ck_t, nI_clamp (show i < 2 ^ 31 by omega), q1, q2, i00, i10, ↓reduceIte, q5, q6, nI_add]
      by_cases c : q + z ≤ 240
      · rw [if_pos (show nI (q + z) ≤ (240 : Int32) from nI_le c (by decide)), if_pos (show nI (q + z) ≤ (240 : Int32) from nI_le c (by decide))]
        obtain ⟨B, b1, b2⟩ := hB
        obtain ⟨cb', g1, e1⟩ := loop_ex (σ := Nat → Int32) (fun j k a => L_X6_load_S_54 N (nI q) (nI z) (si i) (fun u14 => (some (nI z, lf, u14))) j (nI k) a) (fun u14 => (some (nI z, lf, u14)))
          (fun k a => ∀ j, j < 240 → a j = bI (if q ≤ j ∧ j < q + k then !decide (si i (j - q) ≤ 0) else B j)) z
          (fun j a h => by simp only [L_X6_load_S_54, tle (Nat.le_refl z) (show z < 2 ^ 31 by omega), ↓reduceIte])
          (fun j k a hk h => by
            refine ⟨upd a (q + k) (bI (!decide (si i k ≤ 0))), ?_, fun w hw => ?_⟩
            · simp only [L_X6_load_S_54, nle hk (show z < 2 ^ 31 by omega), ↓reduceIte, itemAt_in q4 hk, bd1_t, nI_add, place_in (show q + k < 240 by omega), nI1]
              by_cases c : si i k ≤ 0
              · simp [c, bI]
              · simp [c, bI]
            · by_cases ew : w = q + k
              · subst ew
                rw [upd_s, if_pos ⟨by omega, by omega⟩, show q + k - q = k by omega]
              · rw [upd_n ew, h w hw]
                by_cases c2 : q ≤ w ∧ w < q + k
                · rw [if_pos c2, if_pos ⟨c2.1, by omega⟩]
                · rw [if_neg c2, if_neg (by omega)])
          z 0 N cb (by omega) (by omega) (fun w hw => by rw [if_neg (by omega)]; exact b1 w hw)
        obtain ⟨mb', g2, e2⟩ := loop_ex (σ := Nat → Int32) (fun j k a => L_X7_load_58 N (nI i) (nI q) hS hI (fun u17 => (some (nI z, lf, u17))) j (nI k) a) (fun u17 => (some (nI z, lf, u17)))
          (fun k a => ∀ j, j < 240 → a j = bI (if q ≤ j ∧ j < q + k then !decide (si i (j - q) ≤ 0) else B j)) z
          (fun j a h => by simp only [L_X7_load_58, n4 hi, ck_t, nI_clamp (show i < 2 ^ 31 by omega), q6, tle (Nat.le_refl z) (show z < 2 ^ 31 by omega), ↓reduceIte])
          (fun j k a hk h => by
            refine ⟨upd a (q + k) (bI (!decide (si i k ≤ 0))), ?_, fun w hw => ?_⟩
            · simp only [L_X7_load_58, n4 hi, ck_t, nI_clamp (show i < 2 ^ 31 by omega), q6, nle hk (show z < 2 ^ 31 by omega), ↓reduceIte, at100, n400 (show 100 * i + k < 400 by omega), nI_clamp (show 100 * i + k < 2 ^ 31 by omega), nI_add, inb_t (show q + k < 240 by omega) (show 240 < 2 ^ 31 by decide), nI_clamp (show q + k < 2 ^ 31 by omega), nar_0, nar_1, nI1, ← q7 k (by omega)]
              by_cases c : si i k ≤ 0
              · simp [c, bI]
              · simp [c, bI]
            · by_cases ew : w = q + k
              · subst ew
                rw [upd_s, if_pos ⟨by omega, by omega⟩, show q + k - q = k by omega]
              · rw [upd_n ew, h w hw]
                by_cases c2 : q ≤ w ∧ w < q + k
                · rw [if_pos c2, if_pos ⟨c2.1, by omega⟩]
                · rw [if_neg c2, if_neg (by omega)])
          z 0 N mb (by omega) (by omega) (fun w hw => by rw [if_neg (by omega)]; exact b2 w hw)
        rw [show (0 : Int32) = nI 0 from rfl, e1, e2]
        exact ⟨_, _, _, _, rfl, rfl, _, g1, g2⟩
      · rw [if_neg (show ¬ nI (q + z) ≤ (240 : Int32) from nI_ge (b := q + z) (a := 240) (by omega) (by omega)), if_neg (show ¬ nI (q + z) ≤ (240 : Int32) from nI_ge (b := q + z) (a := 240) (by omega) (by omega)), find_eq, meets_eq, bd2_t, bd2_t]
        exact ⟨_, _, _, _, rfl, rfl, hB⟩
  · rw [(h N).1, (h N).2, bd1_t, bd1_t, if_pos rfl, if_pos rfl]
    exact ⟨_, _, _, _, rfl, rfl, hB⟩
theorem cut_b (f : Int32) (b : Bool) : cutv f (bI b) = bI b := by
  unfold cutv
  cases b
  · simp only [bI_f]
    split
    · rfl
    · split <;> rfl
  · simp only [bI_t]
    split
    · rfl
    · split <;> rfl
theorem pu_write (N : Nat) (hN : 25000 ≤ N) {i : Nat} (hi : i < 4) (a2 lf : Int32) (g : Nat → Option Nat) (cb mb : Nat → Int32) (sl sf ss : Nat → Int32) (si : Nat → Nat → Int32) (hT hF hS hI : Nat → Int32) (hB : RB cb mb) (hH : RH sl sf ss si hT hF hS hI) :
    ∃ (r lf' : Int32) (it' hI' : Nat → Int32), f_X6_write_S N (nI i) a2 lf cb g (sl i) (sf i) (ss i) (si i) = some (r, lf', it') ∧ f_X7_write N (nI i) a2 lf mb hT hS hI = some (r, lf', hI') ∧ RH sl sf ss (va_up si i it') hT hF hS hI' := by
  obtain ⟨⟨t, q1, q2⟩, q3, ⟨z, q4, q5, q6⟩, q7⟩ := hH i hi
  have same : RH sl sf ss (va_up si i (si i)) hT hF hS hI := by rw [vu_same]; exact hH
  unfold f_X6_write_S f_X7_write
  rw [isSheet_in hi, bd1_t, if_neg i1n0]
  rcases box_or a2 with ⟨q, hq, rfl⟩ | h
  · rw [isBox_in hq, in_box hq, bd1_t, bd1_t, if_neg i1n0, if_neg i1n0]
    cases t
    · simp only [Bool.not_true, Bool.not_false, bI_t, bI_f] at q1 q2
      simp only [n4 hi, ck_t, nI_clamp (show i < 2 ^ 31 by omega), q1, q2, i00, i10, ↓reduceIte, find_eq, meets_eq, bd2_t]
      exact ⟨_, _, _, _, rfl, rfl, same⟩
    · simp only [Bool.not_true, Bool.not_false, bI_t, bI_f] at q1 q2
      have es : (240 : Int32) - nI q = nI (240 - q) := pk_sub (a := 240) (by omega)
      simp only [n4 hi, ck_t, nI_clamp (show i < 2 ^ 31 by omega), q1, q2, i00, i10, ↓reduceIte, q5, q6, es]
      obtain ⟨B, b1, b2⟩ := hB
      have key : ∀ c : Nat, c ≤ z → q + c ≤ 240 → ∃ (it' hI' : Nat → Int32), L_X6_write_S_50 N (nI q) (nI c) cb (sf i) (nI z) (fun u10 => (some (nI c, lf, u10))) N 0 (si i) = some (nI c, lf, it') ∧ L_X7_write_68 N (nI i) (nI q) (nI c) mb (fun u16 => (some (nI c, lf, u16))) N 0 hI = some (nI c, lf, hI') ∧ RH sl sf ss (va_up si i it') hT hF hS hI' := by
        intro c hc1 hc2
        obtain ⟨it', g1, e1⟩ := loop_ex (σ := Nat → Int32) (fun j k a => L_X6_write_S_50 N (nI q) (nI c) cb (sf i) (nI z) (fun u10 => (some (nI c, lf, u10))) j (nI k) a) (fun u10 => (some (nI c, lf, u10)))
          (fun k a => ∀ j, j < 100 → a j = if j < k then bI (B (q + j)) else si i j) c
          (fun j a h => by simp only [L_X6_write_S_50, tle (Nat.le_refl c) (show c < 2 ^ 31 by omega), ↓reduceIte])
          (fun j k a hk h => by
            refine ⟨upd a k (bI (B (q + k))), ?_, fun w hw => ?_⟩
            · simp only [L_X6_write_S_50, nle hk (show c < 2 ^ 31 by omega), ↓reduceIte, nI_add, ballAt_in (show q + k < 240 by omega), bd1_t, splace_in q4 (show k < z by omega), b1 (q + k) (by omega), cut_b, nI1]
            · by_cases ew : w = k
              · subst ew; rw [upd_s, if_pos (by omega)]
              · rw [upd_n ew, h w hw]
                by_cases c2 : w < k
                · rw [if_pos c2, if_pos (by omega)]
                · rw [if_neg c2, if_neg (by omega)])
          c 0 N (si i) (by omega) (by omega) (fun w hw => by rw [if_neg (by omega)])
        obtain ⟨hI', ⟨g2, g3⟩, e2⟩ := loop_ex (σ := Nat → Int32) (fun j k a => L_X7_write_68 N (nI i) (nI q) (nI c) mb (fun u16 => (some (nI c, lf, u16))) j (nI k) a) (fun u16 => (some (nI c, lf, u16)))
          (fun k a => (∀ j, j < 100 → a (100 * i + j) = if j < k then bI (B (q + j)) else si i j) ∧ ∀ j, j ≠ i → ∀ k, k < 100 → a (100 * j + k) = hI (100 * j + k)) c
          (fun j a h => by simp only [L_X7_write_68, tle (Nat.le_refl c) (show c < 2 ^ 31 by omega), ↓reduceIte])
          (fun j k a hk h => by
            refine ⟨upd a (100 * i + k) (bI (B (q + k))), ?_, fun w hw => ?_, fun w hw q hq => ?_⟩
            · simp only [L_X7_write_68, nle hk (show c < 2 ^ 31 by omega), ↓reduceIte, nI_add, inb_t (show q + k < 240 by omega) (show 240 < 2 ^ 31 by decide), ck_t, nI_clamp (show q + k < 2 ^ 31 by omega), b2 (q + k) (by omega), at100, n400 (show 100 * i + k < 400 by omega), nI_clamp (show 100 * i + k < 2 ^ 31 by omega), nI1]
              rcases ft (B (q + k)) with e | e
              · simp only [e, bI_f, ↓reduceIte]
              · simp only [e, bI_t, i10, ↓reduceIte]
            · by_cases ew : w = k
              · subst ew; rw [upd_s, if_pos (by omega)]
              · rw [upd_n (by omega), h.1 w hw]
                by_cases c2 : w < k
                · rw [if_pos c2, if_pos (by omega)]
                · rw [if_neg c2, if_neg (by omega)]
            · rw [upd_n (by omega)]; exact h.2 w hw q hq)
          c 0 N hI (by omega) (by omega) ⟨fun w hw => by rw [if_neg (by omega)]; exact (q7 w hw).symm, fun _ _ _ _ => rfl⟩
        exact ⟨it', hI', e1, e2, RH_it hH hi (fun k hk => by rw [g1 k hk, g2 k hk]) g3⟩
      unfold mnI
      by_cases c : 240 - q ≤ z
      · rw [if_pos (nI_le c (by omega))]
        obtain ⟨it', hI', e1, e2, r⟩ := key (240 - q) c (by omega)
        have em : (if nI (240 - q) < nI z then nI (240 - q) else nI z) = nI (240 - q) := by
          by_cases c2 : 240 - q < z
          · rw [if_pos (nI_lt c2 (by omega))]
          · rw [if_neg (nI_nlt (by omega) (by omega)), show z = 240 - q by omega]
        rw [em, e1, e2]
        exact ⟨_, _, _, _, rfl, rfl, r⟩
      · rw [if_neg (nI_ge (by omega) (by omega))]
        obtain ⟨it', hI', e1, e2, r⟩ := key z (Nat.le_refl z) (by omega)
        rw [if_neg (nI_nlt (by omega) (by omega)), e1, e2]
        exact ⟨_, _, _, _, rfl, rfl, r⟩
  · rw [(h N).1, (h N).2, bd1_t, bd1_t, if_pos rfl, if_pos rfl]
    exact ⟨_, _, _, _, rfl, rfl, same⟩
theorem lg_gt (x y : Int64) : (0 < lg_cmp x y) ↔ y.toInt < x.toInt := by
  unfold lg_cmp
  by_cases h1 : x > y
  · rw [if_pos h1]
    have := Int64.lt_iff_toInt_lt.mp h1
    exact ⟨fun _ => by omega, fun _ => by decide⟩
  · rw [if_neg h1]
    have h3 : ¬ y.toInt < x.toInt := fun c => h1 (Int64.lt_iff_toInt_lt.mpr c)
    by_cases h2 : x = y
    · simp only [h2, ↓reduceIte]
      exact ⟨fun c => absurd c (by decide), fun c => absurd c (by omega)⟩
    · simp only [h2, ↓reduceIte]
      exact ⟨fun c => absurd c (by decide), fun c => absurd c h3⟩
theorem lg_le (x y : Int64) : (lg_cmp x y ≤ 0) ↔ x.toInt ≤ y.toInt := by
  have := lg_gt x y
  constructor
  · intro h
    have : ¬ (0 : Int32) < lg_cmp x y := fun c => by
      rw [Int32.lt_iff_toInt_lt] at c
      rw [Int32.le_iff_toInt_le] at h
      omega
    have : ¬ y.toInt < x.toInt := fun c => this ((lg_gt x y).mpr c)
    omega
  · intro h
    have : ¬ (0 : Int32) < lg_cmp x y := fun c => by
      have := (lg_gt x y).mp c
      omega
    rw [Int32.lt_iff_toInt_lt] at this
    rw [Int32.le_iff_toInt_le]
    omega
theorem sum64 (x y : Int32) : (x.toInt64 + y.toInt64).toInt = x.toInt + y.toInt := by
  have h1 := x.toInt_lt
  have h2 := y.toInt_lt
  have h3 := x.le_toInt
  have h4 := y.le_toInt
  rw [fb_addL, Int32.toInt_toInt64, Int32.toInt_toInt64]
  · rw [Int32.toInt_toInt64, Int32.toInt_toInt64]; omega
  · rw [Int32.toInt_toInt64, Int32.toInt_toInt64]; omega
theorem hasItems_eq (N : Nat) {z : Nat} (hz : z ≤ 100) (p c : Int32) : f_X4_hasItems N p c (nI z) = some (if 0 ≤ p.toInt ∧ 0 ≤ c.toInt ∧ p.toInt + c.toInt ≤ z then 1 else 0) := by
  have ez : (nI z).toInt = z := nI_toInt (by omega)
  have e0 : (0 : Int32).toInt = 0 := by decide
  unfold f_X4_hasItems
  simp only [Int32.lt_iff_toInt_lt, ez, e0]
  by_cases c1 : p.toInt < 0
  · rw [if_pos c1, if_neg (by omega)]
  · rw [if_neg c1]
    by_cases c2 : c.toInt < 0
    · rw [if_pos c2, if_neg (by omega)]
    · rw [if_neg c2]
      by_cases c3 : (z : Int) < p.toInt
      · rw [if_pos c3, if_neg (by omega)]
      · rw [if_neg c3]
        obtain ⟨u, hu, rfl⟩ := i32n (x := p) (k := z) (by omega) (by omega)
        rw [pk_sub hu, nI_toInt (show z - u < 2 ^ 31 by omega), nI_toInt (show u < 2 ^ 31 by omega)]
        by_cases c4 : ((z - u : Nat) : Int) < c.toInt
        · rw [if_pos c4, if_neg (by omega)]
        · rw [if_neg c4, if_pos (by omega)]
theorem pu_copy (N : Nat) (hN : 25000 ≤ N) {i j : Nat} (hi : i < 4) (hj : j < 4) (a2 a4 a5 lf : Int32) (g : Nat → Option Nat) (sl sf ss : Nat → Int32) (si : Nat → Nat → Int32) (hT hF hS hI hM : Nat → Int32) (hH : RH sl sf ss si hT hF hS hI) :
    ∃ (r lf' : Int32) (it' hI' hM' : Nat → Int32), f_X6_copy_S_T N (nI i) a2 (nI j) a4 a5 lf g (sl i) (sf i) (ss i) (si i) (sl j) (sf j) (ss j) (si j) = some (r, lf', it') ∧ f_X7_copy N (nI i) a2 (nI j) a4 a5 lf hT hF hS hI hM = some (r, lf', hI', hM') ∧ RH sl sf ss (va_up si j it') hT hF hS hI' := by
  obtain ⟨⟨t, q1, q2⟩, q3, ⟨z, q4, q5, q6⟩, q7⟩ := hH i hi
  obtain ⟨⟨u, w1, w2⟩, w3, ⟨y, w4, w5, w6⟩, w7⟩ := hH j hj
  have same : RH sl sf ss (va_up si j (si j)) hT hF hS hI := by rw [vu_same]; exact hH
  unfold f_X6_copy_S_T f_X7_copy
  rw [isSheet_in hi, isSheet_in hj, bd1_t, bd1_t, if_neg i1n0, if_neg i1n0]
  simp only [n4 hi, n4 hj, ck_t, nI_clamp (show i < 2 ^ 31 by omega), nI_clamp (show j < 2 ^ 31 by omega)]
  cases t
  · simp only [Bool.not_true, Bool.not_false, bI_t, bI_f] at q1 q2
    simp only [q1, q2, i00, i10, ↓reduceIte, find_eq, meets_eq, bd2_t]
    exact ⟨_, _, _, _, _, rfl, rfl, same⟩
  · simp only [Bool.not_true, Bool.not_false, bI_t, bI_f] at q1 q2
    simp only [q1, q2, i00, i10, ↓reduceIte]
    cases u
    · simp only [Bool.not_true, Bool.not_false, bI_t, bI_f] at w1 w2
      simp only [w1, w2, i00, i10, ↓reduceIte, find_eq, meets_eq, bd2_t]
      exact ⟨_, _, _, _, _, rfl, rfl, same⟩
    · simp only [Bool.not_true, Bool.not_false, bI_t, bI_f] at w1 w2
      simp only [w1, w2, i00, i10, ↓reduceIte, ← q3, ← w3]
      by_cases c : sf i = sf j
      · rw [if_pos c, if_pos c, q5, q6, w5, w6, hasItems_eq N q4, hasItems_eq N w4, bd1_t, bd1_t]
        have e0 : (0 : Int32).toInt = 0 := by decide
        simp only [lg_gt, lg_le, sum64, Int32.toInt_toInt64, nI_toInt (show z < 2 ^ 31 by omega), nI_toInt (show y < 2 ^ 31 by omega), Int32.lt_iff_toInt_lt (x := a2), Int32.lt_iff_toInt_lt (x := a4), Int32.lt_iff_toInt_lt (x := a5), e0]
        have bad : ∀ X : Option (Int32 × Int32 × (Nat → Int32)), ∀ Y : Option (Int32 × Int32 × (Nat → Int32) × (Nat → Int32)), X = some (-12, 2, si j) → Y = some (-12, 2, hI, hM) → ∃ (r lf' : Int32) (it' hI' hM' : Nat → Int32), X = some (r, lf', it') ∧ Y = some (r, lf', hI', hM') ∧ RH sl sf ss (va_up si j it') hT hF hS hI' :=
          fun X Y e1 e2 => ⟨-12, 2, si j, hI, hM, e1, e2, same⟩
        by_cases ok : (0 ≤ a2.toInt ∧ 0 ≤ a5.toInt ∧ a2.toInt + a5.toInt ≤ z) ∧ (0 ≤ a4.toInt ∧ 0 ≤ a5.toInt ∧ a4.toInt + a5.toInt ≤ y)
        · rw [if_pos ok.1, if_neg i1n0, if_pos ok.2, if_neg i1n0, if_neg (by omega), if_neg (by omega), if_neg (by omega), if_neg (by omega), if_pos (by omega)]
          obtain ⟨u, hu, rfl⟩ := i32n (x := a2) (k := 100) (by omega) (by omega)
          obtain ⟨v, hv, rfl⟩ := i32n (x := a4) (k := 100) (by omega) (by omega)
          obtain ⟨c, hc, rfl⟩ := i32n (x := a5) (k := 100) (by omega) (by omega)
          rw [nI_toInt (show u < 2 ^ 31 by omega), nI_toInt (show v < 2 ^ 31 by omega), nI_toInt (show c < 2 ^ 31 by omega)] at ok
          have ck1 : cpok (nI u) (nI v) (nI c) 100 100 = true := by
            unfold cpok
            rw [nI_clamp (show u < 2 ^ 31 by omega), nI_clamp (show v < 2 ^ 31 by omega), nI_clamp (show c < 2 ^ 31 by omega)]
            exact decide_eq_true ⟨nI_pos (by omega), nI_pos (by omega), nI_pos (by omega), by omega, by omega⟩
          rw [ck1, ck_t, nI_clamp (show u < 2 ^ 31 by omega), nI_clamp (show v < 2 ^ 31 by omega), nI_clamp (show c < 2 ^ 31 by omega)]
          obtain ⟨hM', g1, e1⟩ := loop_ex (σ := Nat → Int32) (fun n k a => L_X7_copy_120 N (nI i) (nI u) (nI c) hI (fun u39 => (L_X7_copy_157 N (nI j) (nI v) (nI c) u39 (fun u43 => (some ((1 : Int32), lf, u43, u39))) N (0 : Int32) hI)) n (nI k) a) (fun u39 => (L_X7_copy_157 N (nI j) (nI v) (nI c) u39 (fun u43 => (some ((1 : Int32), lf, u43, u39))) N (0 : Int32) hI))
            (fun k a => ∀ x, x < k → a x = si i (u + x)) c
            (fun n a h => by simp only [L_X7_copy_120, tle (Nat.le_refl c) (show c < 2 ^ 31 by omega), ↓reduceIte])
            (fun n k a hk h => by
              have e7 : hI (100 * i + u + k) = si i (u + k) := by rw [q7 (u + k) (by omega), Nat.add_assoc]
              refine ⟨upd a k (si i (u + k)), ?_, fun x hx => ?_⟩
              · simp only [L_X7_copy_120, nle hk (show c < 2 ^ 31 by omega), ↓reduceIte, at100, nI_add, n400 (show 100 * i + u + k < 400 by omega), n100 (show k < 100 by omega), ck_t, nI_clamp (show k < 2 ^ 31 by omega), nI_clamp (show 100 * i + u + k < 2 ^ 31 by omega), nI1, e7]
              · by_cases ex : x = k
                · subst ex; exact upd_s
                · rw [upd_n ex]; exact h x (by omega))
            c 0 N hM (by omega) (by omega) (fun _ h => by omega)
          obtain ⟨hI', ⟨g2, g3⟩, e2⟩ := loop_ex (σ := Nat → Int32) (fun n k a => L_X7_copy_157 N (nI j) (nI v) (nI c) hM' (fun u43 => (some ((1 : Int32), lf, u43, hM'))) n (nI k) a) (fun u43 => (some ((1 : Int32), lf, u43, hM')))
            (fun k a => (∀ x, x < 100 → a (100 * j + x) = va_cpy (si i) (si j) u v k x) ∧ ∀ o, o ≠ j → ∀ k, k < 100 → a (100 * o + k) = hI (100 * o + k)) c
            (fun n a h => by simp only [L_X7_copy_157, tle (Nat.le_refl c) (show c < 2 ^ 31 by omega), ↓reduceIte])
            (fun n k a hk h => by
              refine ⟨upd a (100 * j + v + k) (si i (u + k)), ?_, fun x hx => ?_, fun o ho x hx => ?_⟩
              · simp only [L_X7_copy_157, nle hk (show c < 2 ^ 31 by omega), ↓reduceIte, at100, nI_add, n400 (show 100 * j + v + k < 400 by omega), n100 (show k < 100 by omega), ck_t, nI_clamp (show k < 2 ^ 31 by omega), nI_clamp (show 100 * j + v + k < 2 ^ 31 by omega), nI1, g1 k hk]
              · by_cases ex : x = v + k
                · subst ex
                  rw [Nat.add_assoc, upd_s, pk_cpy_in (by omega) (by omega), show v + k - v = k by omega]
                · rw [upd_n (by omega), h.1 x hx]
                  by_cases c2 : v ≤ x ∧ x < v + k
                  · rw [pk_cpy_in c2.1 c2.2, pk_cpy_in c2.1 (by omega)]
                  · rw [pk_cpy_out (by omega), pk_cpy_out (by omega)]
              · rw [upd_n (by omega)]; exact h.2 o ho x hx)
            c 0 N hI (by omega) (by omega) ⟨fun x hx => by rw [pk_cpy_out (by omega)]; exact (w7 x hx).symm, fun _ _ _ _ => rfl⟩
          refine ⟨1, lf, va_cpy (si i) (si j) u v c, hI', hM', rfl, e1.trans e2, RH_it hH hj (fun k hk => (g2 k hk).symm) g3⟩
        · refine bad _ _ ?_ ?_
          · by_cases o1 : 0 ≤ a2.toInt ∧ 0 ≤ a5.toInt ∧ a2.toInt + a5.toInt ≤ z
            · have o2 : ¬ (0 ≤ a4.toInt ∧ 0 ≤ a5.toInt ∧ a4.toInt + a5.toInt ≤ y) := fun h => ok ⟨o1, h⟩
              rw [if_pos o1, if_neg i1n0, if_neg o2, if_pos rfl]
              rfl
            · rw [if_neg o1, if_pos rfl]
              rfl
          · by_cases o1 : a2.toInt < 0
            · rw [if_pos o1]; rfl
            rw [if_neg o1]
            by_cases o2 : a4.toInt < 0
            · rw [if_pos o2]; rfl
            rw [if_neg o2]
            by_cases o3 : a5.toInt < 0
            · rw [if_pos o3]; rfl
            rw [if_neg o3]
            by_cases o4 : (z : Int) < a2.toInt + a5.toInt
            · rw [if_pos o4]; rfl
            rw [if_neg o4, if_neg (by omega)]
            rfl
      · rw [if_neg c, if_neg c, find_eq, meets_eq, bd2_t, bd2_t]
        exact ⟨_, _, _, _, _, rfl, rfl, same⟩
theorem copy_ss (N : Nat) (p1 p2 p3 p4 p5 lf : Int32) (g : Nat → Option Nat) (l f z : Int32) (it : Nat → Int32) : f_X6_copy_S_S N p1 p2 p3 p4 p5 lf g l f z it = f_X6_copy_S_T N p1 p2 p3 p4 p5 lf g l f z it l f z it := rfl
theorem pu_copyE (N : Nat) (hN : 25000 ≤ N) {i j : Nat} (hi : i < 4) (hj : j < 4) {a1 a3 : Int32} (h1 : a1 = nI i) (h3 : a3 = nI j) (a2 a4 a5 lf : Int32) (g : Nat → Option Nat) (sl sf ss : Nat → Int32) (si : Nat → Nat → Int32) (hT hF hS hI hM : Nat → Int32) (hH : RH sl sf ss si hT hF hS hI) :
    ∃ (r lf' : Int32) (it' hI' hM' : Nat → Int32), f_X6_copy_S_T N a1 a2 a3 a4 a5 lf g (sl i) (sf i) (ss i) (si i) (sl j) (sf j) (ss j) (si j) = some (r, lf', it') ∧ f_X7_copy N a1 a2 a3 a4 a5 lf hT hF hS hI hM = some (r, lf', hI', hM') ∧ RH sl sf ss (va_up si j it') hT hF hS hI' := by
  subst h1 h3
  exact pu_copy N hN hi hj a2 a4 a5 lf g sl sf ss si hT hF hS hI hM hH
