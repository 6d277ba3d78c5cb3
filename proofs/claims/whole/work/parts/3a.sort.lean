/-! sorted strings -/
def beh (a b c d : Int32) : Prop := (a = c ∧ ¬ d ≤ b) ∨ (a ≠ c ∧ ¬ c ≤ a)
theorem cbeh (N : Nat) {s p q : Nat} (hs : s ≤ 240) (hp : p < s) (hq : q < s) (cl cr : Nat → Int32) : (beh (cl p) (cr p) (cl q) (cr q) ∧ f_X5_isBehind N (nI p) (nI q) (nI s) cl cr = some 1) ∨ (¬ beh (cl p) (cr p) (cl q) (cr q) ∧ f_X5_isBehind N (nI p) (nI q) (nI s) cl cr = some 0) := by
  unfold f_X5_isBehind beh
  rw [lenOf hp hs, bd1_t, lenOf hq hs, bd1_t, rigOf hp hs, bd1_t, rigOf hq hs, bd1_t, bd1_t, bd1_t]
  by_cases c : cl p = cl q
  · rw [if_pos c]
    by_cases d : cr q ≤ cr p
    · right; rw [if_pos d]; simp [c, d]
    · left; rw [if_neg d]; simp [c, d]
  · rw [if_neg c]
    by_cases d : cl q ≤ cl p
    · right; rw [if_pos d]; simp [c, d]
    · left; rw [if_neg d]; simp [c, d]
theorem cswap (N : Nat) {s p q : Nat} (hs : s ≤ 240) (hp : p < s) (hq : q < s) (cl cr : Nat → Int32) : f_X5_swap N (nI p) (nI q) (nI s) cl cr = some (upd (upd cl p (cl q)) q (cl p), upd (upd cr p (cr q)) q (cr p)) := by
  unfold f_X5_swap
  rw [isS hp hs, bd1_t, if_neg (by decide), isS hq hs, bd1_t, if_neg (by decide)]
  simp only [inb_t (show p < 240 by omega) (by decide : 240 < 2 ^ 31), inb_t (show q < 240 by omega) (by decide : 240 < 2 ^ 31), ck_t, nI_clamp (show p < 2 ^ 31 by omega), nI_clamp (show q < 2 ^ 31 by omega)]
def Rel (e i : Nat) (cl cr oL oR : Nat → Int32) (xl xr : Int32) : Prop := cl i = xl ∧ cr i = xr ∧ ∀ j, j ≤ e → j ≠ i → cl j = oL j ∧ cr j = oR j
abbrev O8 : Type := Int32 × Int32 × Int32 × (Nat → Int32) × (Nat → Int32) × (Nat → Int32) × (Nat → Int32) × (Nat → Int32)
theorem ins (N : Nat) {s e : Nat} (hs : s ≤ 240) (he : e < s) (ml mr : Nat → Int32) (K : (Nat → Int32) → (Nat → Int32) → Option ((Nat → Int32) × (Nat → Int32))) (K' : Int32 → (Nat → Int32) → (Nat → Int32) → Option O8) :
    ∀ (i f f2 : Nat) (cl cr oL oR : Nat → Int32), i ≤ e → i < f → i < f2 → Rel e i cl cr oL oR (ml e) (mr e) → (∀ j, j < s → ∃ z, z ≤ 240 ∧ cl j = nI z) →
      ∃ (i' : Nat) (cl' cr' oL' oR' : Nat → Int32), L_X5_sort_12 N (nI s) K f (nI i) cl cr = K cl' cr' ∧ L_X7_strings_39 N (nI e) ml mr K' f2 (nI i) oL oR = K' (nI i') oL' oR' ∧ i' ≤ e ∧ Rel e i' cl' cr' oL' oR' (ml e) (mr e) ∧ (∀ j, e < j → cl' j = cl j ∧ cr' j = cr j) ∧ ∀ j, j < s → ∃ z, z ≤ 240 ∧ cl' j = nI z := by
  intro i
  induction i with
  | zero =>
    intro f f2 cl cr oL oR hi hf hf2 hr hz
    obtain ⟨f, rfl⟩ : ∃ z, f = z + 1 := ⟨f - 1, by omega⟩
    obtain ⟨f2, rfl⟩ : ∃ z, f2 = z + 1 := ⟨f2 - 1, by omega⟩
    refine ⟨0, cl, cr, oL, oR, ?_, ?_, by omega, hr, fun _ _ => ⟨rfl, rfl⟩, hz⟩
    · rw [L_X5_sort_12, if_pos (by decide)]
    · rw [L_X7_strings_39, if_pos (by decide)]
  | succ i ih =>
    intro f f2 cl cr oL oR hi hf hf2 hr hz
    obtain ⟨f, rfl⟩ : ∃ z, f = z + 1 := ⟨f - 1, by omega⟩
    obtain ⟨f2, rfl⟩ : ∃ z, f2 = z + 1 := ⟨f2 - 1, by omega⟩
    have hr0 := hr
    obtain ⟨r1, r2, r3⟩ := hr
    obtain ⟨o1, o2⟩ := r3 i (by omega) (by omega)
    have hpos : ¬ nI (i + 1) ≤ 0 := nI_nle (by omega) (by omega)
    have m1 : L_X7_strings_39 N (nI e) ml mr K' (f2 + 1) (nI (i + 1)) oL oR = if oL i < ml e then L_X7_strings_39 N (nI e) ml mr K' f2 (nI i) (upd oL (i + 1) (oL i)) (upd oR (i + 1) (oR i)) else if oL i = ml e then (if mr e ≤ oR i then K' (nI (i + 1)) oL oR else L_X7_strings_39 N (nI e) ml mr K' f2 (nI i) (upd oL (i + 1) (oL i)) (upd oR (i + 1) (oR i))) else K' (nI (i + 1)) oL oR := by
      rw [L_X7_strings_39, if_neg hpos]
      simp only [nI_pred, inb_t (show i < 241 by omega) (by decide : 241 < 2 ^ 31), inb_t (show e < 241 by omega) (by decide : 241 < 2 ^ 31), inb_t (show i + 1 < 241 by omega) (by decide : 241 < 2 ^ 31), ck_t, nI_clamp (show i < 2 ^ 31 by omega), nI_clamp (show e < 2 ^ 31 by omega), nI_clamp (show i + 1 < 2 ^ 31 by omega), pk_m1]
    have c1 : L_X5_sort_12 N (nI s) K (f + 1) (nI (i + 1)) cl cr = bd1 (f_X5_isBehind N (nI i) (nI (i + 1)) (nI s) cl cr) (fun r3 => (if r3 = (0 : Int32) then (K cl cr) else (bd2 (f_X5_swap N (nI i) (nI (i + 1)) (nI s) cl cr) (fun u6 u7 => (L_X5_sort_12 N (nI s) K f (nI i) u6 u7))))) := by
      rw [L_X5_sort_12, if_neg hpos]
      simp only [nI_pred, pk_m1]
    have hb := cbeh N hs (show i < s by omega) (show i + 1 < s by omega) cl cr
    rw [r1, r2, o1, o2] at hb
    rcases hb with ⟨hb, e1⟩ | ⟨hb, e1⟩
    · have m2 : L_X7_strings_39 N (nI e) ml mr K' (f2 + 1) (nI (i + 1)) oL oR = L_X7_strings_39 N (nI e) ml mr K' f2 (nI i) (upd oL (i + 1) (oL i)) (upd oR (i + 1) (oR i)) := by
        rw [m1]
        rcases hb with ⟨q1, q2⟩ | ⟨q1, q2⟩
        · rw [if_neg (by rw [q1]; exact Int32.lt_irrefl), if_pos q1, if_neg q2]
        · rw [if_pos (fa_of_nle q2)]
      rw [c1, e1, bd1_t, if_neg (by decide), cswap N hs (show i < s by omega) (show i + 1 < s by omega), bd2_t, m2]
      have hr2 : Rel e i (upd (upd cl i (cl (i + 1))) (i + 1) (cl i)) (upd (upd cr i (cr (i + 1))) (i + 1) (cr i)) (upd oL (i + 1) (oL i)) (upd oR (i + 1) (oR i)) (ml e) (mr e) := by
        refine ⟨by rw [upd_n (by omega), upd_s]; exact r1, by rw [upd_n (by omega), upd_s]; exact r2, fun j hj hji => ?_⟩
        by_cases ej : j = i + 1
        · subst ej; rw [upd_s, upd_s, upd_s, upd_s]; exact ⟨o1, o2⟩
        · rw [upd_n ej, upd_n ej, upd_n ej, upd_n ej, upd_n hji, upd_n hji]; exact r3 j hj ej
      have hz2 : ∀ j, j < s → ∃ z, z ≤ 240 ∧ upd (upd cl i (cl (i + 1))) (i + 1) (cl i) j = nI z := fun j hj => by
        by_cases ej : j = i + 1
        · subst ej; rw [upd_s]; exact hz i (by omega)
        · rw [upd_n ej]
          by_cases ej2 : j = i
          · subst ej2; rw [upd_s]; exact hz (j + 1) (by omega)
          · rw [upd_n ej2]; exact hz j hj
      obtain ⟨i', cl', cr', oL', oR', g1, g2, g3, g4, g5, g6⟩ := ih f f2 _ _ _ _ (by omega) (by omega) (by omega) hr2 hz2
      refine ⟨i', cl', cr', oL', oR', g1, g2, g3, g4, fun j hj => ?_, g6⟩
      obtain ⟨q1, q2⟩ := g5 j hj
      rw [q1, q2, upd_n (by omega), upd_n (by omega), upd_n (by omega), upd_n (by omega)]
      exact ⟨rfl, rfl⟩
    · have m2 : L_X7_strings_39 N (nI e) ml mr K' (f2 + 1) (nI (i + 1)) oL oR = K' (nI (i + 1)) oL oR := by
        rw [m1]
        unfold beh at hb
        have h3 : ¬ oL i < ml e := fun h => hb (Or.inr ⟨(fa_of_lt h).2.2.2.1, (fa_of_lt h).2.1⟩)
        rw [if_neg h3]
        by_cases q1 : oL i = ml e
        · rw [if_pos q1]
          by_cases q2 : mr e ≤ oR i
          · rw [if_pos q2]
          · exact absurd (Or.inl ⟨q1, q2⟩) hb
        · rw [if_neg q1]
      rw [c1, e1, bd1_t, if_pos rfl, m2]
      exact ⟨i + 1, cl, cr, oL, oR, rfl, rfl, hi, hr0, fun _ _ => ⟨rfl, rfl⟩, hz⟩
theorem srt (N : Nat) (hN : 25000 ≤ N) {s : Nat} (hs : s ≤ 240) (ml mr : Nat → Int32) (K' : (Nat → Int32) → (Nat → Int32) → Option O8) :
    ∀ (j e f f2 : Nat) (cl cr oL oR : Nat → Int32), e + j = s → j < f → j < f2 → (∀ i, i < e → cl i = oL i ∧ cr i = oR i) → (∀ i, e ≤ i → i < s → cl i = ml i ∧ cr i = mr i) → (∀ i, i < s → ∃ z, z ≤ 240 ∧ cl i = nI z) →
      ∃ (cl' cr' oL' oR' : Nat → Int32), L_X5_sort_2 N (nI s) (fun u11 u12 => (some (u11, u12))) f (nI e) cl cr = some (cl', cr') ∧ L_X7_strings_29 N (nI s) ml mr K' f2 (nI e) oL oR = K' oL' oR' ∧ (∀ i, i < s → cl' i = oL' i ∧ cr' i = oR' i) ∧ ∀ i, i < s → ∃ z, z ≤ 240 ∧ cl' i = nI z := by
  intro j
  induction j with
  | zero =>
    intro e f f2 cl cr oL oR he hf hf2 h1 h2 h3
    obtain ⟨f, rfl⟩ : ∃ z, f = z + 1 := ⟨f - 1, by omega⟩
    obtain ⟨f2, rfl⟩ : ∃ z, f2 = z + 1 := ⟨f2 - 1, by omega⟩
    obtain rfl : e = s := by omega
    refine ⟨cl, cr, oL, oR, ?_, ?_, h1, h3⟩
    · rw [L_X5_sort_2, if_pos (nI_le (Nat.le_refl e) (by omega))]
    · rw [L_X7_strings_29, if_pos (nI_le (Nat.le_refl e) (by omega))]
  | succ j ih =>
    intro e f f2 cl cr oL oR he hf hf2 h1 h2 h3
    obtain ⟨f, rfl⟩ : ∃ z, f = z + 1 := ⟨f - 1, by omega⟩
    obtain ⟨f2, rfl⟩ : ∃ z, f2 = z + 1 := ⟨f2 - 1, by omega⟩
    have hes : e < s := by omega
    have hge : ¬ nI s ≤ nI e := nI_ge hes (by omega)
    obtain ⟨i', cl', cr', oL', oR', g1, g2, g3, ⟨g4, g5, g6⟩, g7, g8⟩ := ins N hs hes ml mr (fun u9 u10 => (L_X5_sort_2 N (nI s) (fun u11 u12 => (some (u11, u12))) f (nI (e + 1)) u9 u10)) (fun y27 u28 u29 => (ck (inb (nI e) 241) (ck (inb y27 241) (ck (inb (nI e) 241) (ck (inb y27 241) (L_X7_strings_29 N (nI s) ml mr K' f2 (nI (e + 1)) (upd u28 y27.toNatClampNeg (ml (nI e).toNatClampNeg)) (upd u29 y27.toNatClampNeg (mr (nI e).toNatClampNeg)))))))) e N N cl cr oL oR (Nat.le_refl e) (by omega) (by omega) ⟨(h2 e (Nat.le_refl e) hes).1, (h2 e (Nat.le_refl e) hes).2, fun z hz hze => h1 z (by omega)⟩ h3
    simp only [inb_t (show e < 241 by omega) (by decide : 241 < 2 ^ 31), inb_t (show i' < 241 by omega) (by decide : 241 < 2 ^ 31), ck_t, nI_clamp (show e < 2 ^ 31 by omega), nI_clamp (show i' < 2 ^ 31 by omega)] at g2
    obtain ⟨c2, d2, p2, q2, k1, k2, k3, k4⟩ := ih (e + 1) f f2 cl' cr' (upd oL' i' (ml e)) (upd oR' i' (mr e)) (by omega) (by omega) (by omega) (fun z hz => by
        by_cases ez : z = i'
        · subst ez; rw [upd_s, upd_s]; exact ⟨g4, g5⟩
        · rw [upd_n ez, upd_n ez]; exact g6 z (by omega) ez)
      (fun z hz hz2 => by obtain ⟨w1, w2⟩ := g7 z (by omega); rw [w1, w2]; exact h2 z (by omega) hz2) g8
    refine ⟨c2, d2, p2, q2, ?_, ?_, k3, k4⟩
    · rw [L_X5_sort_2, if_neg hge, nI1, g1]
      exact k1
    · rw [L_X7_strings_29, if_neg hge, nI1, nI_clamp (show e < 2 ^ 31 by omega), inb_t (show e < 241 by omega) (by decide)]
      simp only [ck_t]
      refine Eq.trans ?_ k2
      refine Eq.trans ?_ g2
      congr 1
theorem pu_string (N : Nat) (hN : 25000 ≤ N) (a1 a2 : Int32) (ts : Int32) (tb : Int32) (tl : (Nat → Int32)) (tr : (Nat → Int32)) (tS : (Nat → Int32)) (oL : (Nat → Int32)) (oR : (Nat → Int32)) (oM : (Nat → Int32)) (hS : RS tl tr tS ts tb oL oR oM) : ∃ (r : Int32), f_X6_string N a1 a2 ts tb tl tr tS = some r ∧ f_X7_string N a1 a2 ts oL oR oM = some r := by
  obtain ⟨s, hs, rfl, h⟩ := hS
  unfold f_X6_string f_X7_string
  by_cases hb : ∃ j, j < s ∧ a1 = nI j
  · obtain ⟨j, hj, rfl⟩ := hb
    obtain ⟨h1, h2, z, hz, h3, h4⟩ := h j hj
    have hin : f_X7_in N (nI j) 0 (nI s - 1) = some 1 := by
      unfold f_X7_in
      rw [show nI s - 1 = nI (s - 1) from pk_sub (b := 1) (by omega), if_neg (nI_pos (by omega)), if_neg (nI_nlt (by omega) (by omega))]
    simp only [isS hj hs, bd1_t, i10, ↓reduceIte, hin, inb_t (show j < 241 by omega) (by decide : 241 < 2 ^ 31), ck_t, nI_clamp (show j < 2 ^ 31 by omega), lenOf hj hs, rigOf hj hs, h3, roomL hz]
    by_cases c0 : a2 = 0
    · subst c0
      exact ⟨nI z, by rw [if_pos rfl], by rw [show f_X7_in N 0 0 2 = some 1 from rfl, bd1_t, if_neg (by decide), if_pos rfl, ← h1, h3]⟩
    by_cases c1 : a2 = 1
    · subst c1
      exact ⟨tr j, by rw [if_neg (by decide), if_pos rfl], by rw [show f_X7_in N 1 0 2 = some 1 from rfl, bd1_t, if_neg (by decide), if_neg (by decide), if_pos rfl, ← h2]⟩
    by_cases c2 : a2 = 2
    · subst c2
      exact ⟨oM j, by rw [if_neg (by decide), if_neg (by decide), if_pos rfl, h4], by rw [show f_X7_in N 2 0 2 = some 1 from rfl, bd1_t, if_neg (by decide), if_neg (by decide), if_neg (by decide)]⟩
    · have hin2 : f_X7_in N a2 0 2 = some 0 := by
        unfold f_X7_in
        by_cases d0 : a2 < 0
        · rw [if_pos d0]
        · rw [if_neg d0, if_pos]
          have e0 := sw_ne c0 (z := 0) (by decide)
          have e1 := sw_ne c1 (z := 1) (by decide)
          have e2 := sw_ne c2 (z := 2) (by decide)
          have q2 : (2 : Int32).toInt = 2 := by decide
          have q0 : (0 : Int32).toInt = 0 := by decide
          rw [Int32.lt_iff_toInt_lt] at d0 ⊢
          omega
      exact ⟨-1000, by rw [if_neg c0, if_neg c1, if_neg c2], by rw [hin2, bd1_t, if_pos rfl]⟩
  · have hcls : f_X5_isString N a1 (nI s) = some 0 := by
      unfold f_X5_isString
      rcases pk_ix a1 (n := s) (by omega) with h | h | ⟨j, hj, e⟩
      · rw [if_pos h]
      · by_cases d : a1 < 0
        · rw [if_pos d]
        · rw [if_neg d, if_pos h]
      · exact absurd ⟨j, hj, e⟩ hb
    have hmod : f_X7_in N a1 0 (nI s - 1) = some 0 := by
      unfold f_X7_in
      rcases pk_ix a1 (n := s) (by omega) with h | h | ⟨j, hj, e⟩
      · rw [if_pos h]
      · by_cases d : a1 < 0
        · rw [if_pos d]
        · rw [if_neg d, if_pos]
          have e9 : (nI s - 1).toInt = (s : Int) - 1 := pk_sub_toInt (a := s) (b := 1) (by omega) (by omega)
          rw [Int32.le_iff_toInt_le, nI_toInt (by omega)] at h
          rw [Int32.lt_iff_toInt_lt]
          omega
      · exact absurd ⟨j, hj, e⟩ hb
    exact ⟨-1000, by rw [hcls, bd1_t, if_pos rfl], by rw [hmod, bd1_t, if_pos rfl]⟩
theorem pu_strings (N : Nat) (hN : 25000 ≤ N) (a1 : Int32) (cb : (Nat → Int32)) (ts : Int32) (tb : Int32) (tl : (Nat → Int32)) (tr : (Nat → Int32)) (tS : (Nat → Int32)) (my : Int32) (mb : (Nat → Int32)) (mL : (Nat → Int32)) (mR : (Nat → Int32)) (oL : (Nat → Int32)) (oR : (Nat → Int32)) (oM : (Nat → Int32)) (hB : RB cb mb) (hS : RS tl tr tS ts tb oL oR oM) : ∃ (r : Int32) (ts' : Int32) (tb' : Int32) (tl' : (Nat → Int32)) (tr' : (Nat → Int32)) (tS' : (Nat → Int32)) (my' : Int32) (mL' : (Nat → Int32)) (mR' : (Nat → Int32)) (oL' : (Nat → Int32)) (oR' : (Nat → Int32)) (oM' : (Nat → Int32)), f_X6_strings N a1 cb ts tb tl tr tS = some (r, ts', tb', tl', tr', tS') ∧ f_X7_strings N a1 my ts mb mL mR oL oR oM = some (r, my', ts', mL', mR', oL', oR', oM') ∧ RS tl' tr' tS' ts' tb' oL' oR' oM' := by
  obtain ⟨B, b1, b2⟩ := hB
  unfold f_X6_strings f_X7_strings
  by_cases c0 : a1 < 0
  · refine ⟨-2, ts, tb, tl, tr, tS, my, mL, mR, oL, oR, oM, by rw [if_pos c0], ?_, hS⟩
    rw [show f_X7_in N a1 0 240 = some 0 by unfold f_X7_in; rw [if_pos c0], bd1_t, if_pos rfl]
  · by_cases c1 : a1 ≤ 240
    · obtain ⟨n, hn, rfl⟩ := nI_of2 (M := 240) (n := 240) (by decide) c0 c1
      have hin : f_X7_in N (nI n) 0 240 = some 1 := by
        unfold f_X7_in
        rw [if_neg c0, if_neg (show ¬ (240 : Int32) < nI n from nI_nlt (a := 240) (b := n) hn (by decide))]
      obtain ⟨s, ln, cl, cr, cS, ml, mr, e1, e2, ⟨h1, h2, h3⟩, h4⟩ := reads N hN hn cb mb B b1 b2 ts tb tl tr tS my mL mR
      have hml : ∀ i, i < s → ln i ≤ 240 ∧ ml i = nI (ln i) := fun i hi => ⟨(h2 i hi).2.1, (h2 i hi).2.2.2.1⟩
      have hsort : ∃ (cl' cr' oL' oR' : Nat → Int32), f_X5_sort N (nI s) cl cr = some (cl', cr') ∧ L_X7_strings_29 N (nI s) ml mr (fun u34 u35 => (L_X7_strings_160 N (nI n) (nI s) ml u34 (fun u41 => (some (nI s, nI s, nI s, ml, mr, u34, u35, u41))) N (0 : Int32) oM)) N 0 oL oR = L_X7_strings_160 N (nI n) (nI s) ml oL' (fun u41 => (some (nI s, nI s, nI s, ml, mr, oL', oR', u41))) N (0 : Int32) oM ∧ (∀ i, i < s → cl' i = oL' i ∧ cr' i = oR' i) ∧ ∀ i, i < s → ∃ z, z ≤ 240 ∧ cl' i = nI z := by
        unfold f_X5_sort
        have hz : ∀ i, i < s → ∃ z, z ≤ 240 ∧ cl i = nI z := fun i hi => ⟨ln i, (h2 i hi).2.1, (h2 i hi).2.2.1⟩
        rcases Nat.eq_zero_or_pos s with rfl | h0
        · obtain ⟨N', hN'⟩ : ∃ z, N = z + 1 := ⟨N - 1, by omega⟩
          refine ⟨cl, cr, oL, oR, ?_, ?_, fun i hi => by omega, hz⟩
          · conv => lhs; arg 4; rw [hN']
            rw [L_X5_sort_2, if_pos (by decide)]
          · conv => lhs; arg 6; rw [hN']
            rw [L_X7_strings_29, if_pos (by decide)]
        · obtain ⟨N', hN'⟩ : ∃ z, N = z + 1 := ⟨N - 1, by omega⟩
          obtain ⟨c2, d2, p2, q2, k1, k2, k3, k4⟩ := srt N hN h1 ml mr (fun u34 u35 => (L_X7_strings_160 N (nI n) (nI s) ml u34 (fun u41 => (some (nI s, nI s, nI s, ml, mr, u34, u35, u41))) N (0 : Int32) oM)) (s - 1) 1 N N' cl cr (upd oL 0 (ml 0)) (upd oR 0 (mr 0)) (by omega) (by omega) (by omega)
            (fun i hi => by
              obtain rfl : i = 0 := by omega
              rw [upd_s, upd_s]
              exact ⟨by rw [(h2 0 h0).2.2.1, (h2 0 h0).2.2.2.1], (h2 0 h0).2.2.2.2.symm⟩)
            (fun i hi hi2 => ⟨by rw [(h2 i hi2).2.2.1, (h2 i hi2).2.2.2.1], (h2 i hi2).2.2.2.2.symm⟩) hz
          refine ⟨c2, d2, p2, q2, k1, ?_, k3, k4⟩
          refine Eq.trans ?_ k2
          conv => lhs; arg 6; rw [hN']
          rw [L_X7_strings_29, if_neg (show ¬ nI s ≤ 0 from nI_nle h0 (by omega))]
          conv => lhs; arg 6; rw [hN']
          rw [L_X7_strings_39, if_pos (by decide)]
          rfl
      obtain ⟨cl', cr', oL', oR', e3, e4, g1, g2⟩ := hsort
      obtain ⟨M', q3, e5⟩ := loop_ex (σ := Nat → Int32) (fun f i a => L_X7_strings_160 N (nI n) (nI s) ml oL' (fun u41 => (some (nI s, nI s, nI s, ml, mr, oL', oR', u41))) f (nI i) a) (fun u41 => (some (nI s, nI s, nI s, ml, mr, oL', oR', u41)))
        (fun i a => ∀ j, j < i → ∃ z, z ≤ 240 ∧ cl' j = nI z ∧ a j = rmf ln s (nI n) z) s
        (fun f a ha => by simp only [L_X7_strings_160, tle (Nat.le_refl s) (show s < 2 ^ 31 by omega), ↓reduceIte])
        (fun f i a hi ha => by
          obtain ⟨z, hz, hz2⟩ := g2 i hi
          have ho : oL' i = nI z := by rw [← (g1 i hi).1, hz2]
          refine ⟨upd a i (rmf ln s (nI n) z), ?_, fun j hj => ?_⟩
          · simp only [L_X7_strings_160, nle hi (show s < 2 ^ 31 by omega), ↓reduceIte, inb_t (show i < 241 by omega) (by decide : 241 < 2 ^ 31), ck_t, nI_clamp (show i < 2 ^ 31 by omega), ho, mroom N hN h1 hz (nI n) ln ml hml, bd1_t, nI1]
          · by_cases ej : j = i
            · subst ej; exact ⟨z, hz, hz2, upd_s⟩
            · obtain ⟨y, y1, y2, y3⟩ := ha j (by omega)
              exact ⟨y, y1, y2, by rw [upd_n ej]; exact y3⟩)
        s 0 N oM (by omega) (by omega) (fun j hj => by omega)
      refine ⟨nI s, nI s, nI n, cl', cr', cS, nI s, ml, mr, oL', oR', M', ?_, ?_, s, h1, rfl, fun i hi => ⟨(g1 i hi).1, (g1 i hi).2, ?_⟩⟩
      · rw [if_neg c0, if_pos c1, e1, bd5_t, e3, bd2_t]
      · rw [hin, bd1_t, if_neg (by decide), e2, bd3_t]
        exact e4.trans e5
      · obtain ⟨z, z1, z2, z3⟩ := q3 i hi
        exact ⟨z, z1, z2, by rw [z3, h3 z z1]; rfl⟩
    · refine ⟨-2, ts, tb, tl, tr, tS, my, mL, mR, oL, oR, oM, by rw [if_neg c0, if_neg c1], ?_, hS⟩
      rw [show f_X7_in N a1 0 240 = some 0 by unfold f_X7_in; rw [if_neg c0, if_pos (fa_of_nle c1)], bd1_t, if_pos rfl]
