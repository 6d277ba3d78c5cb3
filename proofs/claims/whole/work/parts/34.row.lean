theorem cabove (N : Nat) (hN : 25000 ≤ N) (v : Nat) (hv : v < 2 ^ 31) (K : Int32 → Int32 → (Nat → Int32) → Option (Int32 × Int32 × (Nat → Int32))) :
    ∀ (j t n : Nat) (l : List Bool) (f : Nat → Int32), t + j = 240 → j < n → l.length ≤ 240 → Hd f 0 l →
      ∃ s' f', L_X0_countsAbove_10 N (nI v) K n (nI t) (nI t) (nI l.length) f = K (nI (t + fa v j l)) s' f' := by
  intro j
  induction j with
  | zero =>
    intro t n l f ht hn hl h
    obtain ⟨n, rfl⟩ : ∃ z, n = z + 1 := ⟨n - 1, by omega⟩
    obtain rfl : t = 240 := by omega
    rw [L_X0_countsAbove_10]
    simp only [t240, ↓reduceIte]
    exact ⟨_, _, rfl⟩
  | succ j ih =>
    intro t n l f ht hn hl h
    obtain ⟨n, rfl⟩ : ∃ z, n = z + 1 := ⟨n - 1, by omega⟩
    rw [L_X0_countsAbove_10]
    obtain ⟨f', e1, h1⟩ := ctakeOut N hN l hl f h
    have hb := bl_rm l.length l (Nat.le_refl _)
    have hb2 := bl_le l
    simp only [n240 (show t < 240 by omega), ↓reduceIte, e1, bd3_t, nI1]
    by_cases c : v < ct l
    · rw [if_pos (nI_lt c (by omega))]
      obtain ⟨s2, f2, e2⟩ := ih (t + 1) n (rm l) f' (by omega) (by omega) (by omega) h1
      refine ⟨s2, f2, ?_⟩
      rw [e2]
      simp only [fa, c, ↓reduceIte]
      rw [show t + 1 + fa v j (rm l) = t + (fa v j (rm l) + 1) by omega]
    · rw [if_neg (nI_nlt (Nat.le_of_not_lt c) hv)]
      refine ⟨nI (rm l).length, f', ?_⟩
      simp only [fa, c, ↓reduceIte, Nat.add_zero]
theorem fab_le (v : Nat) : ∀ j l, fa v j l ≤ j
  | 0, _ => Nat.le_refl _
  | j + 1, l => by
    have := fab_le v j (rm l)
    simp only [fa]
    split <;> omega
theorem fab_pos {v j : Nat} {l : List Bool} (hj : 0 < j) (c : v < ct l) : fa v j l ≠ 0 := by
  cases j with
  | zero => omega
  | succ j => simp only [fa, c, ↓reduceIte]; omega
theorem fab_zero {v j : Nat} {l : List Bool} (c : ¬ v < ct l) : fa v j l = 0 := by
  cases j with
  | zero => rfl
  | succ j => simp only [fa, c, ↓reduceIte]
theorem pu_heap (N : Nat) (hN : 25000 ≤ N) (a1 : Int32) (cb : (Nat → Int32)) (ps : Int32) (pl : (Nat → Int32)) (mb : (Nat → Int32)) (ml : (Nat → Int32)) (mp : (Nat → Int32)) (hB : RB cb mb) : ∃ (r : Int32) (ps' : Int32) (pl' : (Nat → Int32)) (ml' : (Nat → Int32)) (mp' : (Nat → Int32)), f_X6_heap N a1 cb ps pl = some (r, ps', pl') ∧ f_X7_heap N a1 mb ml mp = some (r, ml', mp') := by
  obtain ⟨B, b1, b2⟩ := hB
  obtain ⟨R, f', p', e1, g1, g2, g3, g4⟩ := mpairs N hN mb ml mp B b2
  have hbl := bl_le (rl B 0 240)
  rw [rl_len] at hbl
  have hct := ct_le_bl (rl B 0 240)
  by_cases h0 : a1 < 0
  · refine ⟨-2, ps, pl, f', p', ?_, ?_⟩
    · unfold f_X6_heap
      rw [if_neg (fun h => ?_)]
      rw [Int32.lt_iff_toInt_lt] at h0
      rw [Int32.le_iff_toInt_le] at h
      omega
    · unfold f_X7_heap
      rw [e1, bd3_t]
      by_cases hR : R = 0
      · rw [if_pos (by rw [hR]; rfl)]
      · rw [if_neg (by rw [nI0 (by omega)]; exact hR), show inb (0 : Int32) 240 = true from by decide, ck_t]
        have : f_X7_in N a1 0 (p' (0 : Int32).toNatClampNeg - 1) = some 0 := by unfold f_X7_in; rw [if_pos h0]
        rw [this, bd1_t, if_pos rfl]
  · obtain ⟨v, hv, rfl⟩ := nI_of h0
    obtain ⟨x', e2, h2⟩ := cbegin N hN cb pl ps B b1
    obtain ⟨s3, f3, e3⟩ := cabove N hN v hv (fun y10 u11 u12 => (some (y10, u11, u12))) 240 0 N (rl B 0 240) x' rfl (by omega) (by rw [rl_len]; omega) h2
    have hfa := fab_le v 240 (rl B 0 240)
    have hhc := hc_fa v R 240 (rl B 0 240) g3 g2
    have ec : f_X6_heap N (nI v) cb ps pl = some (if fa v 240 (rl B 0 240) = 0 then -2 else nI (fa v 240 (rl B 0 240)), s3, f3) := by
      unfold f_X6_heap f_X0_countsAbove
      rw [if_pos (show (0 : Int32) ≤ nI v from nI_pos' hv), e2, bd2_t]
      have e4 : L_X0_countsAbove_10 N (nI v) (fun y10 u11 u12 => (some (y10, u11, u12))) N 0 0 (nI (rl B 0 240).length) x' = some (nI (fa v 240 (rl B 0 240)), s3, f3) := by
        rw [Nat.zero_add] at e3; exact e3
      rw [e4, bd3_t]
      by_cases c : fa v 240 (rl B 0 240) = 0
      · rw [if_pos (by rw [nIle0 (by omega)]; exact c), if_pos c]
      · rw [if_neg (by rw [nIle0 (by omega)]; exact c), if_neg c]
    refine ⟨_, s3, f3, f', p', ec, ?_⟩
    unfold f_X7_heap
    rw [e1, bd3_t]
    by_cases hR : R = 0
    · rw [if_pos (by rw [hR]; rfl)]
      subst hR
      rw [if_pos (show fa v 240 (rl B 0 240) = 0 from hhc.symm)]
    · rw [if_neg (by rw [nI0 (by omega)]; exact hR), show inb (0 : Int32) 240 = true from by decide, ck_t]
      have p0 : p' (0 : Int32).toNatClampNeg = nI (ct (rl B 0 240)) := g1 0 (by omega)
      rw [p0]
      by_cases c : v < ct (rl B 0 240)
      · have : f_X7_in N (nI v) 0 (nI (ct (rl B 0 240)) - 1) = some 1 := by
          unfold f_X7_in
          rw [if_neg h0, if_neg]
          rw [show nI (ct (rl B 0 240)) - 1 = nI (ct (rl B 0 240) - 1) from pk_sub (b := 1) (by omega)]
          exact nI_nlt (by omega) (by omega)
        rw [this, bd1_t, if_neg (by decide)]
        have hpos : fa v 240 (rl B 0 240) ≠ 0 := fab_pos (by omega) c
        rw [if_neg hpos]
        have key : ∀ (l0 : List Bool) (j k n c : Nat), k + j = R → j < n → k ≤ 240 → c ≤ k → (∀ i, i < j → p' (k + i) = nI (ct (rmi i l0))) → (∀ i, i < j → ct (rmi i l0) ≤ 240) → L_X7_heap_33 N (nI v) (nI R) p' (fun y13 => (some (y13, f', p'))) n (nI c) (nI k) = some (nI (c + hc v j l0), f', p') := by
          intro l0 j
          induction j generalizing l0 with
          | zero =>
            intro k n c hk hn hk2 hc2 hp hq
            obtain ⟨n, rfl⟩ : ∃ z, n = z + 1 := ⟨n - 1, by omega⟩
            rw [L_X7_heap_33, if_pos (nI_le (by omega) (by omega))]
            rfl
          | succ j ih =>
            intro k n c hk hn hk2 hc2 hp hq
            obtain ⟨n, rfl⟩ : ∃ z, n = z + 1 := ⟨n - 1, by omega⟩
            rw [L_X7_heap_33, if_neg (nI_ge (by omega) (by omega)), inb_t (show k < 240 by omega) (by decide), ck_t, nI_clamp (by omega), nI1]
            have q0 : p' k = nI (ct l0) := hp 0 (by omega)
            have q1 : ct l0 ≤ 240 := hq 0 (by omega)
            have hp' : ∀ i, i < j → p' (k + 1 + i) = nI (ct (rmi i (rm l0))) := fun i hi => by
              rw [show k + 1 + i = k + (i + 1) by omega]; exact hp (i + 1) (by omega)
            have hq' : ∀ i, i < j → ct (rmi i (rm l0)) ≤ 240 := fun i hi => hq (i + 1) (by omega)
            rw [q0]
            by_cases cc : v < ct l0
            · rw [if_neg (nI_ge cc (by omega)), nI1, ih (rm l0) (k + 1) n (c + 1) (by omega) (by omega) (by omega) (by omega) hp' hq']
              simp only [hc, cc, ↓reduceIte]
              rw [show c + 1 + hc v j (rm l0) = c + (hc v j (rm l0) + 1) by omega]
            · rw [if_pos (nI_le (Nat.le_of_not_lt cc) hv), add0, ih (rm l0) (k + 1) n c (by omega) (by omega) (by omega) (by omega) hp' hq']
              simp only [hc, cc, ↓reduceIte, Nat.add_zero]
        have hall : ∀ (i : Nat) (l : List Bool), l.length ≤ 240 → ct (rmi i l) ≤ 240 := by
          intro i
          induction i with
          | zero => intro l hl; have := ct_le_bl l; have := bl_le l; simp only [rmi]; omega
          | succ i ih => intro l hl; have := (bl_rm l.length l (Nat.le_refl _)).2; exact ih (rm l) (by omega)
        have := key (rl B 0 240) R 0 N 0 (by omega) (by omega) (by omega) (Nat.le_refl _) (fun i hi => by rw [Nat.zero_add]; exact g1 i hi) (fun i _ => hall i _ (by rw [rl_len]; omega))
        rw [Nat.zero_add, hhc] at this
        exact this
      · have : f_X7_in N (nI v) 0 (nI (ct (rl B 0 240)) - 1) = some 0 := by
          unfold f_X7_in
          rw [if_neg h0, if_pos]
          rw [Int32.lt_iff_toInt_lt, nI_toInt hv]
          have := pk_sub_toInt (a := ct (rl B 0 240)) (b := 1) (by omega) (by omega)
          have e9 : (nI (ct (rl B 0 240)) - 1).toInt = (ct (rl B 0 240) : Int) - 1 := this
          omega
        rw [this, bd1_t, if_pos rfl]
        rw [if_pos (fab_zero c)]
def fU (B : Nat → Bool) : Nat → Int32
  | 0 => -1
  | k + 1 => if fU B k = -1 ∧ B k = true then nI k else fU B k
def lU (B : Nat → Bool) : Nat → Int32
  | 0 => -1
  | k + 1 => if B k = true then nI k else lU B k
def fI (B : Nat → Bool) : Nat → Nat → Int32
  | _, 0 => -1
  | k, j + 1 => if B k = true then nI k else fI B (k + 1) j
theorem nI_nm1 {k : Nat} (h : k < 2 ^ 31) : ¬ nI k = -1 := fun e => by
  have := congrArg Int32.toInt e
  rw [nI_toInt h] at this
  have e2 : (-1 : Int32).toInt = -1 := by decide
  omega
theorem fU_fI (B : Nat → Bool) : ∀ j k, k + j < 2 ^ 31 → fU B (k + j) = if fU B k = -1 then fI B k j else fU B k
  | 0, k, _ => by
    simp only [Nat.add_zero, fI]
    by_cases c : fU B k = -1
    · rw [if_pos c, c]
    · rw [if_neg c]
  | j + 1, k, h => by
    have ih := fU_fI B j (k + 1) (by omega)
    rw [show k + (j + 1) = k + 1 + j by omega, ih]
    simp only [fU, fI]
    by_cases c : fU B k = -1
    · by_cases b : B k = true
      · have hne := nI_nm1 (show k < 2 ^ 31 by omega)
        simp [c, b, hne]
      · simp [c, b]
    · simp [c]
theorem cfirst (N : Nat) (cb : Nat → Int32) (B : Nat → Bool) (hB : ∀ k, k < 240 → cb k = bI (B k)) : ∀ j k n, k + j = 240 → j < n → L_X3_firstBall_2 N cb (fun _ => (some (-1 : Int32))) n (nI k) = some (fI B k j)
  | 0, k, n, hk, hn => by
    obtain ⟨n, rfl⟩ : ∃ z, n = z + 1 := ⟨n - 1, by omega⟩
    obtain rfl : k = 240 := by omega
    simp only [L_X3_firstBall_2, t240, ↓reduceIte, fI]
  | j + 1, k, n, hk, hn => by
    obtain ⟨n, rfl⟩ : ∃ z, n = z + 1 := ⟨n - 1, by omega⟩
    simp only [L_X3_firstBall_2, n240 (show k < 240 by omega), ↓reduceIte, inb_t (show k < 240 by omega) (by decide : 240 < 2 ^ 31), ck_t, nI_clamp (show k < 2 ^ 31 by omega), hB k (by omega), nI1, fI]
    cases hb : B k
    · simp only [bI_f, i00, ↓reduceIte, Bool.false_eq_true]
      exact cfirst N cb B hB j (k + 1) n (by omega) (by omega)
    · simp only [bI_t, i10, ↓reduceIte]
theorem clast (N : Nat) (cb : Nat → Int32) (B : Nat → Bool) (hB : ∀ k, k < 240 → cb k = bI (B k)) : ∀ k n, k < 240 → k + 1 < n → L_X3_lastBall_4 N cb (fun _ => (some (-1 : Int32))) n (nI k) = some (lU B (k + 1))
  | 0, n, hk, hn => by
    obtain ⟨n, rfl⟩ : ∃ z, n = z + 2 := ⟨n - 2, by omega⟩
    rw [L_X3_lastBall_4, if_neg (by decide), inb_t (show 0 < 240 by omega) (by decide), ck_t, nI_clamp (by omega), hB 0 (by omega)]
    simp only [lU]
    cases hb : B 0
    · simp only [bI_f, i00, ↓reduceIte, Bool.false_eq_true]
      rw [show nI 0 + (-1 : Int32) = -1 from by decide, L_X3_lastBall_4, if_pos (by decide)]
    · simp only [bI_t, i10, ↓reduceIte]
  | k + 1, n, hk, hn => by
    obtain ⟨n, rfl⟩ : ∃ z, n = z + 1 := ⟨n - 1, by omega⟩
    rw [L_X3_lastBall_4, if_neg (nI_pos (by omega)), inb_t (show k + 1 < 240 by omega) (by decide), ck_t, nI_clamp (by omega), hB (k + 1) (by omega)]
    cases hb : B (k + 1)
    · simp only [bI_f, i00, ↓reduceIte]
      rw [pk_m1, clast N cb B hB k n (by omega) (by omega)]
      have e : lU B (k + 1 + 1) = lU B (k + 1) := by
        show (if B (k + 1) = true then nI (k + 1) else lU B (k + 1)) = _
        rw [hb]
        rfl
      rw [e]
    · simp only [bI_t, i10, ↓reduceIte]
      rw [lU]
      simp only [hb, ↓reduceIte]
theorem pu_row (N : Nat) (hN : 25000 ≤ N) (a1 : Int32) (cb : (Nat → Int32)) (ps : Int32) (pl : (Nat → Int32)) (mb : (Nat → Int32)) (ml : (Nat → Int32)) (mp : (Nat → Int32)) (hB : RB cb mb) : ∃ (r : Int32) (ps' : Int32) (pl' : (Nat → Int32)) (ml' : (Nat → Int32)) (mp' : (Nat → Int32)), f_X6_row N a1 cb ps pl = some (r, ps', pl') ∧ f_X7_row N a1 mb ml mp = some (r, ml', mp') := by
  obtain ⟨B, b1, b2⟩ := hB
  unfold f_X7_row
  obtain ⟨⟨x, y⟩, ⟨h1, h2⟩, e⟩ := loop_ex (σ := Int32 × Int32) (fun n k a => L_X7_row_7 N mb (fun y11 y12 => (if a1 = (0 : Int32) then (bd1 (f_X7_balls N mb) (fun r14 => (some (r14, ml, mp)))) else (if a1 = (1 : Int32) then (some (y11, ml, mp)) else (if a1 = (2 : Int32) then (some (y12, ml, mp)) else (if a1 = (3 : Int32) then (bd3 (f_X7_pairRounds N mb ml mp) (fun r19 u20 u21 => (if r19 = (0 : Int32) then (some ((0 : Int32), u20, u21)) else (ck (inb (0 : Int32) 240) (some ((u21 (0 : Int32).toNatClampNeg), u20, u21)))))) else (some ((-2 : Int32), ml, mp))))))) n a.1 a.2 (nI k)) (fun a => (if a1 = (0 : Int32) then (bd1 (f_X7_balls N mb) (fun r14 => (some (r14, ml, mp)))) else (if a1 = (1 : Int32) then (some (a.1, ml, mp)) else (if a1 = (2 : Int32) then (some (a.2, ml, mp)) else (if a1 = (3 : Int32) then (bd3 (f_X7_pairRounds N mb ml mp) (fun r19 u20 u21 => (if r19 = (0 : Int32) then (some ((0 : Int32), u20, u21)) else (ck (inb (0 : Int32) 240) (some ((u21 (0 : Int32).toNatClampNeg), u20, u21)))))) else (some ((-2 : Int32), ml, mp)))))))
    (fun k a => a.1 = fU B k ∧ a.2 = lU B k) 240
    (fun n a h => by simp only [L_X7_row_7, t240, ↓reduceIte])
    (fun n k a hk h => by
      obtain ⟨x, y⟩ := a
      obtain ⟨h1, h2⟩ := h
      simp only at h1 h2
      subst h1 h2
      refine ⟨(fU B (k + 1), lU B (k + 1)), ?_, rfl, rfl⟩
      simp only [L_X7_row_7, n240 hk, ↓reduceIte, inb_t hk (by decide : 240 < 2 ^ 31), ck_t, nI_clamp (show k < 2 ^ 31 by omega), nI1, b2 k hk, fU, lU]
      by_cases c : fU B k = -1
      · cases hb : B k
        · simp only [c, bI_f, i00, ↓reduceIte, Bool.false_eq_true, and_false]
        · simp only [c, bI_t, i10, ↓reduceIte, and_true, and_self]
      · cases hb : B k
        · simp only [c, bI_f, i00, ↓reduceIte, Bool.false_eq_true, and_false]
        · simp only [c, bI_t, i10, ↓reduceIte, false_and])
    240 0 N (-1, -1) rfl (by omega) ⟨rfl, rfl⟩
  simp only at h1 h2 e
  rw [h1, h2] at e
  have e : L_X7_row_7 N mb (fun y11 y12 => (if a1 = (0 : Int32) then (bd1 (f_X7_balls N mb) (fun r14 => (some (r14, ml, mp)))) else (if a1 = (1 : Int32) then (some (y11, ml, mp)) else (if a1 = (2 : Int32) then (some (y12, ml, mp)) else (if a1 = (3 : Int32) then (bd3 (f_X7_pairRounds N mb ml mp) (fun r19 u20 u21 => (if r19 = (0 : Int32) then (some ((0 : Int32), u20, u21)) else (ck (inb (0 : Int32) 240) (some ((u21 (0 : Int32).toNatClampNeg), u20, u21)))))) else (some ((-2 : Int32), ml, mp))))))) N (-1) (-1) 0 = _ := e
  rw [e]
  unfold f_X6_row
  by_cases c0 : a1 = 0
  · refine ⟨nI (cnt B 240), ps, pl, ml, mp, ?_, ?_⟩
    · rw [if_pos c0, cballs N hN cb B b1, bd1_t]
    · rw [if_pos c0, mballs N hN mb B b2, bd1_t]
  · by_cases c1 : a1 = 1
    · refine ⟨fU B 240, ps, pl, ml, mp, ?_, ?_⟩
      · have hf : f_X3_firstBall N cb = some (fU B 240) := by
          have h1 := cfirst N cb B b1 240 0 N rfl (by omega)
          have h2 := fU_fI B 240 0 (by omega)
          rw [Nat.zero_add, show fU B 0 = -1 from rfl, if_pos rfl] at h2
          rw [h2]
          exact h1
        rw [if_neg c0, if_pos c1, hf, bd1_t]
      · rw [if_neg c0, if_pos c1]
    · by_cases c2 : a1 = 2
      · refine ⟨lU B 240, ps, pl, ml, mp, ?_, ?_⟩
        · have hf : f_X3_lastBall N cb = some (lU B 240) := clast N cb B b1 239 N (by omega) (by omega)
          rw [if_neg c0, if_neg c1, if_pos c2, hf, bd1_t]
        · rw [if_neg c0, if_neg c1, if_pos c2]
      · by_cases c3 : a1 = 3
        · obtain ⟨R, f', p', e1, g1, g2, g3, g4⟩ := mpairs N hN mb ml mp B b2
          obtain ⟨x', e2, h2⟩ := cbegin N hN cb pl ps B b1
          obtain ⟨y', e3, h3⟩ := ctakeOut N hN (rl B 0 240) (by rw [rl_len]; omega) x' h2
          refine ⟨nI (ct (rl B 0 240)), nI (rm (rl B 0 240)).length, y', f', p', ?_, ?_⟩
          · rw [if_neg c0, if_neg c1, if_neg c2, if_pos c3]
            unfold f_X0_heapsOf
            rw [e2, bd2_t, e3, bd3_t, bd3_t]
          · rw [if_neg c0, if_neg c1, if_neg c2, if_pos c3, e1, bd3_t]
            by_cases hR : R = 0
            · have h4 := g4 hR
              have h5 := ct_le_bl (rl B 0 240)
              rw [if_pos (by rw [hR]; rfl), show ct (rl B 0 240) = 0 by omega]
              rfl
            · rw [if_neg (by rw [nI0 (by omega)]; exact hR), show inb (0 : Int32) 240 = true from by decide, ck_t, show p' (0 : Int32).toNatClampNeg = nI (ct (rl B 0 240)) from g1 0 (by omega)]
        · refine ⟨-2, ps, pl, ml, mp, ?_, ?_⟩
          · rw [if_neg c0, if_neg c1, if_neg c2, if_neg c3]
          · rw [if_neg c0, if_neg c1, if_neg c2, if_neg c3]
