theorem lgz (x y : Int64) : (lg_cmp x y = 0) = (x = y) := by
  unfold lg_cmp
  by_cases h1 : x > y
  · rw [if_pos h1]
    have : x ≠ y := fun e => by subst e; exact absurd h1 (Int64.lt_irrefl)
    simp [this]
  · rw [if_neg h1]
    by_cases h2 : x = y
    · simp [h2]
    · simp [h2]
def prd (r n b : Nat) : Nat → Nat → Nat → Int32
  | 0, _, _ => -5
  | j + 1, t, x => if tn r n x = b then nI t else prd r n b j (t + 1) (tn r n x)
theorem n20k {t : Nat} (h : t ≤ 20000) : ((20000 : Int32) < nI t) = False := eq_false (nI_nlt (a := 20000) (b := t) h (by decide))
theorem t20k : ((20000 : Int32) < nI 20001) = True := eq_true (by decide)
theorem cperiod (N : Nat) (hN : 25000 ≤ N) {r n b : Nat} (hr : r ≤ 50) (hn : n ≤ 40) (hb : b < 2 ^ n) :
    ∀ (j t f x : Nat) (mk : Int64) (ch : Int32), t + j = 20001 → j < f → x < 2 ^ n → ∃ u1 u2 u3, L_X2_periodOf_17 N (nI r) (nI n) (lN b) (fun u11 u12 u13 => (some ((-5 : Int32), nI n, u11, u12, u13))) f (nI t) (lN x) mk ch = some (prd r n b j t x, nI n, u1, u2, u3) := by
  intro j
  induction j with
  | zero =>
    intro t f x mk ch ht hf hx
    obtain ⟨f, rfl⟩ : ∃ z, f = z + 1 := ⟨f - 1, by omega⟩
    obtain rfl : t = 20001 := by omega
    rw [L_X2_periodOf_17]
    simp only [t20k, ↓reduceIte]
    exact ⟨_, _, _, rfl⟩
  | succ j ih =>
    intro t f x mk ch ht hf hx
    obtain ⟨f, rfl⟩ : ∃ z, f = z + 1 := ⟨f - 1, by omega⟩
    rw [L_X2_periodOf_17]
    obtain ⟨c', e1⟩ := cturn N hN hr hn hx mk ch
    have hl := p40 (tn_lt r n x) hn
    have hl2 := p40 hb hn
    simp only [n20k (show t ≤ 20000 by omega), ↓reduceIte, e1, bd4_t, lgz, nI1]
    by_cases c : tn r n x = b
    · rw [if_pos (by rw [c])]
      simp only [prd, c, ↓reduceIte]
      exact ⟨_, _, _, rfl⟩
    · rw [if_neg (by rw [pk_lEQ (by omega) (by omega)]; exact c)]
      simp only [prd, c, ↓reduceIte]
      exact ih (t + 1) f (tn r n x) _ _ (by omega) (by omega) (tn_lt r n x)
theorem cperiodOf (N : Nat) (hN : 25000 ≤ N) {r n b : Nat} (hr : r ≤ 50) (hn : n ≤ 40) (hb : b < 2 ^ n) (un : Int32) (ub um : Int64) (uc : Int32) :
    ∃ u1 u2 u3, f_X2_periodOf N (nI r) un ub um uc (nI n) (lN b) = some (prd r n b 20000 1 b, nI n, u1, u2, u3) := by
  unfold f_X2_periodOf f_X1_become
  rw [bd2_t]
  exact cperiod N hN hr hn hb 20000 1 N b um uc rfl (by omega) hb
def eqb (y b : Nat) : Nat → Nat → Bool
  | _, 0 => true
  | k, j + 1 => (y.testBit k == b.testBit k) && eqb y b (k + 1) j
theorem eqb_true {y b : Nat} : ∀ {j k : Nat}, eqb y b k j = true → ∀ i, k ≤ i → i < k + j → y.testBit i = b.testBit i
  | 0, k, _, i, h1, h2 => by omega
  | j + 1, k, h, i, h1, h2 => by
    simp only [eqb, Bool.and_eq_true, beq_iff_eq] at h
    by_cases e : i = k
    · subst e; exact h.1
    · exact eqb_true h.2 i (by omega) (by omega)
theorem eqb_self (b : Nat) : ∀ j k, eqb b b k j = true
  | 0, _ => rfl
  | j + 1, k => by simp only [eqb, beq_self_eq_true, Bool.true_and]; exact eqb_self b j (k + 1)
theorem eqb_iff {y b n : Nat} (hy : y < 2 ^ n) (hb : b < 2 ^ n) : eqb y b 0 n = decide (y = b) := by
  by_cases c : y = b
  · subst c; rw [eqb_self]; simp
  · cases h : eqb y b 0 n
    · simp [c]
    · exfalso
      apply c
      apply Nat.eq_of_testBit_eq
      intro i
      by_cases hi : i < n
      · exact eqb_true h i (by omega) (by omega)
      · rw [Nat.testBit_lt_two_pow (Nat.lt_of_lt_of_le hy (Nat.pow_le_pow_right (by omega) (by omega))), Nat.testBit_lt_two_pow (Nat.lt_of_lt_of_le hb (Nat.pow_le_pow_right (by omega) (by omega)))]
theorem mas (N : Nat) (hN : 25000 ≤ N) {n y b : Nat} (hn : n ≤ 40) (hy : y < 2 ^ n) (hb : b < 2 ^ n) (mr mw : Nat → Int32) (h1 : ∀ k, k < n → mr k = bI (y.testBit k)) (h2 : ∀ k, k < n → mw k = bI (b.testBit k)) :
    f_X7_isAsWas N (nI n) mr mw = some (if y = b then 1 else 0) := by
  have key : ∀ (j k f : Nat), k + j = n → j < f → L_X7_isAsWas_2 N (nI n) mr mw (fun _ => (some (1 : Int32))) f (nI k) = some (bI (eqb y b k j)) := by
    intro j
    induction j with
    | zero =>
      intro k f hk hf
      obtain ⟨f, rfl⟩ : ∃ z, f = z + 1 := ⟨f - 1, by omega⟩
      obtain rfl : k = n := by omega
      simp only [L_X7_isAsWas_2, tle (Nat.le_refl k) (show k < 2 ^ 31 by omega), ↓reduceIte, eqb, bI_t]
    | succ j ih =>
      intro k f hk hf
      obtain ⟨f, rfl⟩ : ∃ z, f = z + 1 := ⟨f - 1, by omega⟩
      simp only [L_X7_isAsWas_2, nle (show k < n by omega) (show n < 2 ^ 31 by omega), ↓reduceIte, n40 (show k < n by omega) hn, ck_t, nI_clamp (show k < 2 ^ 31 by omega), h1 k (by omega), h2 k (by omega), bI_inj, nI1, eqb]
      by_cases c : y.testBit k = b.testBit k
      · rw [if_pos c, ih (k + 1) f (by omega) (by omega)]
        simp [c]
      · rw [if_neg c]
        have : (y.testBit k == b.testBit k) = false := by simp [c]
        rw [this]
        rfl
  unfold f_X7_isAsWas
  have := key n 0 N (by omega) (by omega)
  rw [eqb_iff hy hb] at this
  rw [show (0 : Int32) = nI 0 from rfl, this]
  by_cases c : y = b
  · simp [c, bI]
  · simp [c, bI]
    rfl
theorem mcopy (N : Nat) {n b : Nat} (hn : n ≤ 40) (mr mw : Nat → Int32) (hm : ∀ k, k < n → mr k = bI (b.testBit k)) (K : (Nat → Int32) → Option (Int32 × (Nat → Int32) × (Nat → Int32))) (f : Nat) (hf : n < f) :
    ∃ w', L_X7_periodOf_2 N (nI n) mr K f 0 mw = K w' ∧ (∀ k, k < n → w' k = bI (b.testBit k)) := by
  obtain ⟨w', h, e⟩ := loop_ex (σ := Nat → Int32) (fun j k a => L_X7_periodOf_2 N (nI n) mr K j (nI k) a) (fun a => K a)
    (fun k a => ∀ j, j < k → a j = bI (b.testBit j)) n
    (fun j a h => by simp only [L_X7_periodOf_2, tle (Nat.le_refl n) (show n < 2 ^ 31 by omega), ↓reduceIte])
    (fun j k a hk h => by
      refine ⟨upd a k (bI (b.testBit k)), ?_, fun z hz => ?_⟩
      · simp only [L_X7_periodOf_2, nle hk (show n < 2 ^ 31 by omega), ↓reduceIte, n40 hk hn, ck_t, nI_clamp (show k < 2 ^ 31 by omega), hm k hk, nI1, nar_b]
      · by_cases ez : z = k
        · subst ez; exact upd_s
        · rw [upd_n ez]; exact h z (by omega))
    n 0 f mw (by omega) (by omega) (fun z hz => by omega)
  exact ⟨w', e, h⟩
theorem mback (N : Nat) {n b : Nat} (hn : n ≤ 40) (mr mw : Nat → Int32) (hm : ∀ k, k < n → mw k = bI (b.testBit k)) (K : (Nat → Int32) → Option (Int32 × (Nat → Int32) × (Nat → Int32))) (f : Nat) (hf : n < f) :
    ∃ w', L_X7_periodOf_60 N (nI n) mw K f 0 mr = K w' ∧ (∀ k, k < n → w' k = bI (b.testBit k)) ∧ ∀ k, n ≤ k → w' k = mr k := by
  obtain ⟨w', h, e⟩ := loop_ex (σ := Nat → Int32) (fun j k a => L_X7_periodOf_60 N (nI n) mw K j (nI k) a) (fun a => K a)
    (fun k a => (∀ j, j < k → a j = bI (b.testBit j)) ∧ ∀ j, k ≤ j → a j = mr j) n
    (fun j a h => by simp only [L_X7_periodOf_60, tle (Nat.le_refl n) (show n < 2 ^ 31 by omega), ↓reduceIte])
    (fun j k a hk h => by
      refine ⟨upd a k (bI (b.testBit k)), ?_, fun z hz => ?_, fun z hz => ?_⟩
      · simp only [L_X7_periodOf_60, nle hk (show n < 2 ^ 31 by omega), ↓reduceIte, n40 hk hn, ck_t, nI_clamp (show k < 2 ^ 31 by omega), hm k hk, nI1, nar_b]
      · by_cases ez : z = k
        · subst ez; exact upd_s
        · rw [upd_n ez]; exact h.1 z (by omega)
      · rw [upd_n (by omega)]; exact h.2 z (by omega))
    n 0 f mr (by omega) (by omega) ⟨fun z hz => by omega, fun _ _ => rfl⟩
  exact ⟨w', e, h.1, h.2⟩
theorem mperiodOf (N : Nat) (hN : 25000 ≤ N) {r n b : Nat} (hr : r ≤ 50) (hn : n ≤ 40) (hb : b < 2 ^ n) (mr mw : Nat → Int32) (hm : ∀ k, k < n → mr k = bI (b.testBit k)) :
    ∃ m' w', f_X7_periodOf N (nI r) (nI n) mr mw = some (prd r n b 20000 1 b, m', w') ∧ (∀ k, k < n → m' k = bI (b.testBit k)) ∧ ∀ k, n ≤ k → m' k = mr k := by
  unfold f_X7_periodOf
  obtain ⟨w', e1, hw⟩ := mcopy N hn mr mw hm (fun u4 => (L_X7_periodOf_30 N (nI r) (nI n) u4 (fun u12 => (L_X7_periodOf_60 N (nI n) u4 (fun u16 => (some ((-5 : Int32), u16, u4))) N (0 : Int32) u12)) N (1 : Int32) mr)) N (by omega)
  rw [e1]
  have key : ∀ (j t f x : Nat) (m : Nat → Int32), t + j = 20001 → j < f → x < 2 ^ n → (∀ k, k < n → m k = bI (x.testBit k)) → (∀ k, n ≤ k → m k = mr k) →
      ∃ m', L_X7_periodOf_30 N (nI r) (nI n) w' (fun u12 => (L_X7_periodOf_60 N (nI n) w' (fun u16 => (some ((-5 : Int32), u16, w'))) N (0 : Int32) u12)) f (nI t) m = some (prd r n b j t x, m', w') ∧ (∀ k, k < n → m' k = bI (b.testBit k)) ∧ ∀ k, n ≤ k → m' k = mr k := by
    intro j
    induction j with
    | zero =>
      intro t f x m ht hf hx h1 h2
      obtain ⟨f, rfl⟩ : ∃ z, f = z + 1 := ⟨f - 1, by omega⟩
      obtain rfl : t = 20001 := by omega
      rw [L_X7_periodOf_30]
      simp only [t20k, ↓reduceIte, prd]
      obtain ⟨m', e2, g1, g2⟩ := mback N hn m w' hw (fun u16 => (some ((-5 : Int32), u16, w'))) N (by omega)
      exact ⟨m', e2, g1, fun k hk => by rw [g2 k hk, h2 k hk]⟩
    | succ j ih =>
      intro t f x m ht hf hx h1 h2
      obtain ⟨f, rfl⟩ : ∃ z, f = z + 1 := ⟨f - 1, by omega⟩
      rw [L_X7_periodOf_30]
      obtain ⟨m', e2, g1, g2⟩ := mturns N hN hr hn m h1
      simp only [n20k (show t ≤ 20000 by omega), ↓reduceIte, e2, bd2_t, mas N hN hn (tn_lt r n x) hb m' w' g1 hw, bd1_t, nI1, prd]
      by_cases c : tn r n x = b
      · simp only [c, ↓reduceIte, i10]
        exact ⟨m', rfl, fun k hk => by rw [g1 k hk, c], fun k hk => by rw [g2 k hk, h2 k hk]⟩
      · simp only [c, ↓reduceIte]
        exact ih (t + 1) f (tn r n x) m' (by omega) (by omega) (tn_lt r n x) g1 (fun k hk => by rw [g2 k hk, h2 k hk])
  obtain ⟨m', e2, g1, g2⟩ := key 20000 1 N b mr rfl (by omega) hb hm (fun _ _ => rfl)
  exact ⟨m', w', e2, g1, g2⟩
theorem pu_period (N : Nat) (hN : 25000 ≤ N) (a1 : Int32) (rn : Int32) (rb : Int64) (un : Int32) (ub : Int64) (um : Int64) (uc : Int32) (mr : (Nat → Int32)) (mw : (Nat → Int32)) (hR : RR rn rb mr) : ∃ (r : Int32) (un' : Int32) (ub' : Int64) (um' : Int64) (uc' : Int32) (mr' : (Nat → Int32)) (mw' : (Nat → Int32)), f_X6_period N a1 rn rb un ub um uc = some (r, un', ub', um', uc') ∧ f_X7_period N a1 rn mr mw = some (r, mr', mw') ∧ RR rn rb mr' := by
  obtain ⟨n, b, hn1, hn2, rfl, rfl, hb, hm⟩ := id hR
  unfold f_X6_period f_X7_period
  rcases room_or a1 with ⟨r, h1, h2, rfl, hi⟩ | hi
  · obtain ⟨u1, u2, u3, e1⟩ := cperiodOf N hN h2 hn2 hb un ub um uc
    obtain ⟨m', w', e2, g1, g2⟩ := mperiodOf N hN h2 hn2 hb mr mw hm
    refine ⟨prd r n b 20000 1 b, nI n, u1, u2, u3, m', w', ?_, ?_, n, b, hn1, hn2, rfl, rfl, hb, g1⟩
    · rw [(hi N).1, bd1_t, if_neg (by decide), e1, bd5_t]
    · rw [(hi N).2, bd1_t, if_neg (by decide), e2, bd3_t]
  · refine ⟨-2, un, ub, um, uc, mr, mw, ?_, ?_, hR⟩
    · rw [(hi N).1, bd1_t, if_pos rfl]
    · rw [(hi N).2, bd1_t, if_pos rfl]
