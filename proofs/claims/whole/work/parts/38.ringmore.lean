theorem ft (x : Bool) : x = false ∨ x = true := by cases x <;> simp
theorem cnt_zero {B : Nat → Bool} : ∀ n, (∀ k, k < n → B k = false) → cnt B n = 0
  | 0, _ => rfl
  | n + 1, h => by simp only [cnt]; rw [cnt_zero n (fun k hk => h k (by omega)), h n (by omega)]; rfl
theorem cnt_tb {b n m : Nat} (hb : b < 2 ^ n) (hn : n ≤ m) : cnt (fun k => b.testBit k) m = cnt (fun k => b.testBit k) n := by
  have e := cnt_add (fun k => b.testBit k) n (m - n)
  rw [show n + (m - n) = m by omega] at e
  rw [e, cnt_zero (m - n) (fun k hk => Nat.testBit_lt_two_pow (Nat.lt_of_lt_of_le hb (Nat.pow_le_pow_right (by omega) (by omega)))), Nat.add_zero]
theorem mringBalls (N : Nat) (hN : 25000 ≤ N) {n b : Nat} (hn : n ≤ 40) (mr : Nat → Int32) (hm : ∀ k, k < n → mr k = bI (b.testBit k)) : f_X7_ringBalls N (nI n) mr = some (nI (cnt (fun k => b.testBit k) n)) := by
  unfold f_X7_ringBalls
  obtain ⟨x, h3, e⟩ := loop_ex (σ := Int32) (fun j k a => L_X7_ringBalls_4 N (nI n) mr (fun y4 => some y4) j a (nI k)) (fun a => some a)
    (fun k a => a = nI (cnt (fun k => b.testBit k) k)) n
    (fun j a h => by simp only [L_X7_ringBalls_4, tle (Nat.le_refl n) (show n < 2 ^ 31 by omega), ↓reduceIte])
    (fun j k a hk h => by
      subst h
      refine ⟨nI (cnt (fun k => b.testBit k) (k + 1)), ?_, rfl⟩
      simp only [L_X7_ringBalls_4, nle hk (show n < 2 ^ 31 by omega), ↓reduceIte, n40 hk hn, ck_t, nI_clamp (show k < 2 ^ 31 by omega), hm k hk, nI1, cnt]
      rcases ft (b.testBit k) with q | q
      · simp [q, bI_f]
      · simp [q, bI_t, i10])
    n 0 N 0 (by omega) (by omega) rfl
  rw [← h3]
  exact e
theorem pu_count (N : Nat) (hN : 25000 ≤ N) (a1 : Int32) (mv : Int32) (lf : Int32) (cb : (Nat → Int32)) (ts : Int32) (rn : Int32) (rb : Int64) (mb : (Nat → Int32)) (mr : (Nat → Int32)) (tl : (Nat → Int32)) (tr : (Nat → Int32)) (tS : (Nat → Int32)) (tb : Int32) (oL : (Nat → Int32)) (oR : (Nat → Int32)) (oM : (Nat → Int32)) (hB : RB cb mb) (hS : RS tl tr tS ts tb oL oR oM) (hR : RR rn rb mr) : ∃ (r : Int32), f_X6_count N a1 mv lf cb ts rn rb = some r ∧ f_X7_count N a1 mv ts rn lf mb mr = some r := by
  obtain ⟨B, b1, b2⟩ := hB
  obtain ⟨n, b, hn1, hn2, rfl, rfl, hb, hm⟩ := hR
  unfold f_X6_count f_X7_count
  by_cases c0 : a1 = 0
  · exact ⟨nI (cnt B 240), by rw [if_pos c0, cballs N hN cb B b1, bd1_t], by rw [if_pos c0, mballs N hN mb B b2, bd1_t]⟩
  by_cases c1 : a1 = 1
  · exact ⟨nI n, by rw [if_neg c0, if_pos c1], by rw [if_neg c0, if_pos c1]⟩
  by_cases c2 : a1 = 2
  · exact ⟨nI (cnt (fun k => b.testBit k) n), by rw [if_neg c0, if_neg c1, if_pos c2, bitL N b (p40 hb hn2), bd1_t, cnt_tb hb hn2], by rw [if_neg c0, if_neg c1, if_pos c2, mringBalls N hN hn2 mr hm, bd1_t]⟩
  by_cases c3 : a1 = 3
  · exact ⟨ts, by rw [if_neg c0, if_neg c1, if_neg c2, if_pos c3], by rw [if_neg c0, if_neg c1, if_neg c2, if_pos c3]⟩
  by_cases c4 : a1 = 4
  · exact ⟨mv, by rw [if_neg c0, if_neg c1, if_neg c2, if_neg c3, if_pos c4], by rw [if_neg c0, if_neg c1, if_neg c2, if_neg c3, if_pos c4]⟩
  by_cases c5 : a1 = 5
  · exact ⟨lf, by rw [if_neg c0, if_neg c1, if_neg c2, if_neg c3, if_neg c4, if_pos c5], by rw [if_neg c0, if_neg c1, if_neg c2, if_neg c3, if_neg c4, if_pos c5]⟩
  · exact ⟨-2, by rw [if_neg c0, if_neg c1, if_neg c2, if_neg c3, if_neg c4, if_neg c5], by rw [if_neg c0, if_neg c1, if_neg c2, if_neg c3, if_neg c4, if_neg c5]⟩
def dgs (g : Nat → Int32) : Nat → Int64 → Int64
  | 0, h => h
  | k + 1, h => 31 * dgs g k h + (g k).toInt64
theorem dg_loop {β : Type} (F : Nat → Nat → Int64 → Option β) (K : Int64 → Option β) (g : Nat → Int32) (E N : Nat) (hE : E < N) (h0 : Int64)
    (hx : ∀ n a, F (n + 1) E a = K a) (hs : ∀ n k a, k < E → F (n + 1) k a = F n (k + 1) (31 * a + (g k).toInt64)) : F N 0 h0 = K (dgs g E h0) := by
  obtain ⟨x, h3, e⟩ := loop_ex (σ := Int64) F K (fun k a => a = dgs g k h0) E (fun n a _ => hx n a)
    (fun n k a hk h => ⟨_, hs n k a hk, by subst h; rfl⟩) E 0 N h0 (by omega) hE rfl
  rw [e, h3]
theorem pu_digest (N : Nat) (hN : 25000 ≤ N) (mv : Int32) (lf : Int32) (cb : (Nat → Int32)) (ts : Int32) (rn : Int32) (rb : Int64) (mb : (Nat → Int32)) (mr : (Nat → Int32)) (tl : (Nat → Int32)) (tr : (Nat → Int32)) (tS : (Nat → Int32)) (tb : Int32) (oL : (Nat → Int32)) (oR : (Nat → Int32)) (oM : (Nat → Int32)) (hB : RB cb mb) (hS : RS tl tr tS ts tb oL oR oM) (hR : RR rn rb mr) : ∃ (r : Int64), f_X6_digest N mv lf cb ts rn rb = some r ∧ f_X7_digest N mv ts rn lf mb mr = some r := by
  have hc := fun k : Nat => pu_count N hN (nI k) mv lf cb ts rn rb mb mr tl tr tS tb oL oR oM hB hS hR
  obtain ⟨B, b1, b2⟩ := hB
  obtain ⟨n, b, hn1, hn2, rfl, rfl, hb, hm⟩ := hR
  generalize hg : (fun k => Classical.choose (hc k)) = g
  have q1 : ∀ k, f_X6_count N (nI k) mv lf cb ts (nI n) (lN b) = some (g k) := fun k => by rw [← hg]; exact (Classical.choose_spec (hc k)).1
  have q2 : ∀ k, f_X7_count N (nI k) mv ts (nI n) lf mb mr = some (g k) := fun k => by rw [← hg]; exact (Classical.choose_spec (hc k)).2
  have w5 : ∀ k, k < 5 → ((4 : Int32) < nI k) = False := fun k h => eq_false (nI_nlt (a := 4) (b := k) (by omega) (by decide))
  have w6 : ∀ k, k < 5 → ((5 : Int32) ≤ nI k) = False := fun k h => eq_false (nI_ge (b := 5) h (by decide))
  refine ⟨dgs (fun k => bI (b.testBit k)) n (dgs (fun k => bI (B k)) 240 (dgs g 5 17)), ?_, ?_⟩
  · unfold f_X6_digest
    have e1 := dg_loop (fun j k a => L_X6_digest_6 N mv lf cb ts (nI n) (lN b) (fun y4 => (L_X6_digest_32 N cb (fun y8 => (L_X6_digest_63 N (nI n) (lN b) (fun y12 => (some y12)) N y8 (0 : Int32))) N y4 (0 : Int32))) j a (nI k)) (fun y4 => (L_X6_digest_32 N cb (fun y8 => (L_X6_digest_63 N (nI n) (lN b) (fun y12 => (some y12)) N y8 (0 : Int32))) N y4 (0 : Int32))) g 5 N (by omega) 17
      (fun j a => by simp only [L_X6_digest_6]; rw [if_pos (by decide)])
      (fun j k a hk => by simp only [L_X6_digest_6, w5 k hk, ↓reduceIte, q1, bd1_t, nI1])
    have e2 := dg_loop (fun j k a => L_X6_digest_32 N cb (fun y8 => (L_X6_digest_63 N (nI n) (lN b) (fun y12 => (some y12)) N y8 (0 : Int32))) j a (nI k)) (fun y8 => (L_X6_digest_63 N (nI n) (lN b) (fun y12 => (some y12)) N y8 (0 : Int32))) (fun k => bI (B k)) 240 N (by omega) (dgs g 5 17)
      (fun j a => by simp only [L_X6_digest_32, t240, ↓reduceIte])
      (fun j k a hk => by simp only [L_X6_digest_32, n240 hk, ↓reduceIte, ballAt_in hk, bd1_t, b1 k hk, nI1])
    have e3 := dg_loop (fun j k a => L_X6_digest_63 N (nI n) (lN b) (fun y12 => (some y12)) j a (nI k)) (fun y12 => (some y12)) (fun k => bI (b.testBit k)) n N (by omega) (dgs (fun k => bI (B k)) 240 (dgs g 5 17))
      (fun j a => by simp only [L_X6_digest_63, tle (Nat.le_refl n) (show n < 2 ^ 31 by omega), ↓reduceIte])
      (fun j k a hk => by simp only [L_X6_digest_63, nle hk (show n < 2 ^ 31 by omega), ↓reduceIte, rball (p40 hb hn2) (show k < 40 by omega), bd1_t, nI1])
    exact e1.trans (e2.trans e3)
  · unfold f_X7_digest
    have e1 := dg_loop (fun j k a => L_X7_digest_6 N mv ts (nI n) lf mb mr (fun y4 => (L_X7_digest_32 N mb (fun y8 => (L_X7_digest_69 N (nI n) mr (fun y12 => (some y12)) N y8 (0 : Int32))) N y4 (0 : Int32))) j a (nI k)) (fun y4 => (L_X7_digest_32 N mb (fun y8 => (L_X7_digest_69 N (nI n) mr (fun y12 => (some y12)) N y8 (0 : Int32))) N y4 (0 : Int32))) g 5 N (by omega) 17
      (fun j a => by simp only [L_X7_digest_6]; rw [if_pos (by decide)])
      (fun j k a hk => by simp only [L_X7_digest_6, w6 k hk, ↓reduceIte, q2, bd1_t, nI1])
    have e2 := dg_loop (fun j k a => L_X7_digest_32 N mb (fun y8 => (L_X7_digest_69 N (nI n) mr (fun y12 => (some y12)) N y8 (0 : Int32))) j a (nI k)) (fun y8 => (L_X7_digest_69 N (nI n) mr (fun y12 => (some y12)) N y8 (0 : Int32))) (fun k => bI (B k)) 240 N (by omega) (dgs g 5 17)
      (fun j a => by simp only [L_X7_digest_32, t240, ↓reduceIte])
      (fun j k a hk => by
        simp only [L_X7_digest_32, n240 hk, ↓reduceIte, inb_t hk (by decide : 240 < 2 ^ 31), ck_t, nI_clamp (show k < 2 ^ 31 by omega), b2 k hk, nI1]
        cases B k
        · simp only [bI_f, i00, ↓reduceIte]
        · simp only [bI_t, i10, ↓reduceIte])
    have e3 := dg_loop (fun j k a => L_X7_digest_69 N (nI n) mr (fun y12 => (some y12)) j a (nI k)) (fun y12 => (some y12)) (fun k => bI (b.testBit k)) n N (by omega) (dgs (fun k => bI (B k)) 240 (dgs g 5 17))
      (fun j a => by simp only [L_X7_digest_69, tle (Nat.le_refl n) (show n < 2 ^ 31 by omega), ↓reduceIte])
      (fun j k a hk => by
        simp only [L_X7_digest_69, nle hk (show n < 2 ^ 31 by omega), ↓reduceIte, n40 hk hn2, ck_t, nI_clamp (show k < 2 ^ 31 by omega), hm k hk, nI1]
        cases b.testBit k
        · simp only [bI_f, i00, ↓reduceIte]
        · simp only [bI_t, i10, ↓reduceIte])
    exact e1.trans (e2.trans e3)
theorem ringn_or (x : Int32) : (∃ z, 1 ≤ z ∧ z ≤ 40 ∧ x = nI z ∧ ¬ x < 1 ∧ ¬ (40 : Int32) < x ∧ ∀ N, f_X7_in N x 1 40 = some 1) ∨ ((x < 1 ∨ (40 : Int32) < x) ∧ ∀ N, f_X7_in N x 1 40 = some 0) := by
  by_cases h1 : x < 1
  · exact Or.inr ⟨Or.inl h1, fun N => by unfold f_X7_in; rw [if_pos h1]⟩
  · by_cases h2 : (40 : Int32) < x
    · exact Or.inr ⟨Or.inr h2, fun N => by unfold f_X7_in; rw [if_neg h1, if_pos h2]⟩
    · have e1 : (1 : Int32).toInt = 1 := by decide
      have e2 : (40 : Int32).toInt = 40 := by decide
      have h3 := h1
      have h4 := h2
      rw [Int32.lt_iff_toInt_lt] at h3 h4
      refine Or.inl ⟨x.toInt.toNat, by omega, by omega, ?_, h1, h2, fun N => ?_⟩
      · apply Int32.toInt_inj.mp
        rw [nI_toInt (by omega)]
        omega
      · unfold f_X7_in; rw [if_neg h1, if_neg h2]
theorem pu_ring (N : Nat) (hN : 25000 ≤ N) (a1 a2 : Int32) (cb : (Nat → Int32)) (rn : Int32) (rb : Int64) (mb : (Nat → Int32)) (mr : (Nat → Int32)) (hB : RB cb mb) (hR : RR rn rb mr) : ∃ (r : Int32) (rn' : Int32) (rb' : Int64) (mr' : (Nat → Int32)), f_X6_ring N a1 a2 cb rn rb = some (r, rn', rb') ∧ f_X7_ring N a1 a2 rn mb mr = some (r, rn', mr') ∧ RR rn' rb' mr' := by
  obtain ⟨B, b1, b2⟩ := hB
  have badm : f_X7_in N a2 1 40 = some 0 → f_X7_ring N a1 a2 rn mb mr = some (-2, rn, mr) := fun h => by
    unfold f_X7_ring
    rw [h, bd1_t, if_pos rfl]
  rcases ringn_or a2 with ⟨z, z1, z2, rfl, g1, g2, hi⟩ | ⟨hz, hi⟩
  · rcases box_or a1 with ⟨f, hf, rfl⟩ | hx
    · by_cases cfz : f + z ≤ 240
      · have hin : f_X7_in N (nI f) 0 ((240 : Int32) - nI z) = some 1 := by
          unfold f_X7_in
          rw [show (240 : Int32) - nI z = nI (240 - z) from pk_sub (a := 240) (by omega), if_neg (nI_pos (by omega)), if_neg (nI_nlt (by omega) (by omega))]
        have hbits : f_X3_bits N (nI f) (nI z) cb = some (lN (bn (fun k => B (f + k)) z)) := by
          unfold f_X3_bits
          obtain ⟨x, h3, e⟩ := loop_ex (σ := Int64) (fun j k a => L_X3_bits_5 N (nI f) (nI z) cb (fun y4 => some y4) j a (nI k)) (fun a => some a)
            (fun k a => a = lN (bn (fun k => B (f + k)) k)) z
            (fun j a h => by simp only [L_X3_bits_5, tle (Nat.le_refl z) (show z < 2 ^ 31 by omega), ↓reduceIte])
            (fun j k a hk h => by
              subst h
              refine ⟨lN (bn (fun k => B (f + k)) (k + 1)), ?_, rfl⟩
              simp only [L_X3_bits_5, nle hk (show z < 2 ^ 31 by omega), ↓reduceIte, nI_add, ballAt_in (show f + k < 240 by omega), bd1_t, b1 (f + k) (by omega), nI1]
              rw [← bn_or (fun k => B (f + k)) (show k < 40 by omega)])
            z 0 N 0 (by omega) (by omega) rfl
          rw [← h3]
          exact e
        have hbl := bn_lt (fun k => B (f + k)) z
        have htb : ∀ k, k < z → (bn (fun k => B (f + k)) z).testBit k = B (f + k) := fun k hk => bn_tb _ z k hk
        have hcn : cnt (fun k => (bn (fun k => B (f + k)) z).testBit k) z = cnt (fun k => B (f + k)) z := cnt_cong z htb
        have hcl := cnt_le (fun k => B (f + k)) z
        generalize hc : cnt (fun k => B (f + k)) z = c at hcn hcl
        have e2c : (2 : Int32) * nI c = nI (2 * c) := pk_mul 2 c
        have hcls : f_X6_ring N (nI f) (nI z) cb rn rb = (if 2 * c < z then some (nI c, nI z, lN (bn (fun k => B (f + k)) z)) else some (-3, rn, rb)) := by
          unfold f_X6_ring
          rw [isBox_in hf, bd1_t, if_neg (by decide), if_neg g1, if_neg g2, if_pos (show nI f + nI z ≤ (240 : Int32) by rw [nI_add]; exact nI_le (b := 240) cfz (by decide)) , hbits, bd1_t, bitL N _ (p40 hbl z2), bd1_t, cnt_tb hbl z2, hcn]
          unfold f_X6_isFewerThanHalf f_X1_become
          rw [e2c]
          by_cases cc : 2 * c < z
          · rw [if_neg (nI_ge cc (by omega)), bd1_t, if_neg (by decide), bd2_t, if_pos cc]
          · rw [if_pos (nI_le (Nat.le_of_not_lt cc) (by omega)), bd1_t, if_pos rfl, if_neg cc]
        obtain ⟨x, h3, e3⟩ := loop_ex (σ := Int32) (fun j k a => L_X7_ring_31 N (nI f) (nI z) mb (fun y10 => (if ((2 : Int32) * y10) < nI z then (L_X7_ring_81 N (nI f) (nI z) mb (fun u15 => (some (y10, nI z, u15))) N (0 : Int32) mr) else (some ((-3 : Int32), rn, mr)))) j a (nI k)) (fun y10 => (if ((2 : Int32) * y10) < nI z then (L_X7_ring_81 N (nI f) (nI z) mb (fun u15 => (some (y10, nI z, u15))) N (0 : Int32) mr) else (some ((-3 : Int32), rn, mr))))
          (fun k a => a = nI (cnt (fun k => B (f + k)) k)) z
          (fun j a h => by simp only [L_X7_ring_31, tle (Nat.le_refl z) (show z < 2 ^ 31 by omega), ↓reduceIte])
          (fun j k a hk h => by
            subst h
            refine ⟨nI (cnt (fun k => B (f + k)) (k + 1)), ?_, rfl⟩
            simp only [L_X7_ring_31, nle hk (show z < 2 ^ 31 by omega), ↓reduceIte, nI_add, inb_t (show f + k < 240 by omega) (by decide : 240 < 2 ^ 31), ck_t, nI_clamp (show f + k < 2 ^ 31 by omega), b2 (f + k) (by omega), nI1, cnt]
            rcases ft (B (f + k)) with q | q
            · simp [q, bI_f]
            · simp [q, bI_t, i10])
          z 0 N 0 (by omega) (by omega) rfl
        rw [hc] at h3
        subst h3
        obtain ⟨m', h4, e4⟩ := loop_ex (σ := Nat → Int32) (fun j k a => L_X7_ring_81 N (nI f) (nI z) mb (fun u15 => (some (nI c, nI z, u15))) j (nI k) a) (fun a => some (nI c, nI z, a))
          (fun k a => ∀ j, j < k → a j = bI (B (f + j))) z
          (fun j a h => by simp only [L_X7_ring_81, tle (Nat.le_refl z) (show z < 2 ^ 31 by omega), ↓reduceIte])
          (fun j k a hk h => by
            refine ⟨upd a k (bI (B (f + k))), ?_, fun y hy => ?_⟩
            · simp only [L_X7_ring_81, nle hk (show z < 2 ^ 31 by omega), ↓reduceIte, nI_add, inb_t (show f + k < 240 by omega) (by decide : 240 < 2 ^ 31), n40 hk z2, ck_t, nI_clamp (show f + k < 2 ^ 31 by omega), nI_clamp (show k < 2 ^ 31 by omega), b2 (f + k) (by omega), nI1, nar_b]
            · by_cases ey : y = k
              · subst ey; exact upd_s
              · rw [upd_n ey]; exact h y (by omega))
          z 0 N mr (by omega) (by omega) (fun y hy => by omega)
        have hmod : f_X7_ring N (nI f) (nI z) rn mb mr = (if 2 * c < z then some (nI c, nI z, m') else some (-3, rn, mr)) := by
          unfold f_X7_ring
          rw [hi N, bd1_t, if_neg (by decide), hin, bd1_t, if_neg (by decide)]
          refine Eq.trans e3 ?_
          show (if ((2 : Int32) * nI c) < nI z then _ else _) = _
          rw [e2c]
          by_cases cc : 2 * c < z
          · rw [if_pos (nI_lt cc (by omega)), if_pos cc]
            exact e4
          · rw [if_neg (nI_nlt (Nat.le_of_not_lt cc) (by omega)), if_neg cc]
        rw [hcls, hmod]
        by_cases cc : 2 * c < z
        · rw [if_pos cc, if_pos cc]
          exact ⟨_, _, _, _, rfl, rfl, z, bn (fun k => B (f + k)) z, z1, z2, rfl, rfl, hbl, fun k hk => by rw [h4 k hk, htb k hk]⟩
        · rw [if_neg cc, if_neg cc]
          exact ⟨_, _, _, _, rfl, rfl, hR⟩
      · refine ⟨-2, rn, rb, mr, ?_, ?_, hR⟩
        · unfold f_X6_ring
          rw [isBox_in hf, bd1_t, if_neg (by decide), if_neg g1, if_neg g2, if_neg (show ¬ nI f + nI z ≤ (240 : Int32) by rw [nI_add]; exact nI_ge (a := 240) (by omega) (by omega))]
        · have hin : f_X7_in N (nI f) 0 ((240 : Int32) - nI z) = some 0 := by
            unfold f_X7_in
            rw [show (240 : Int32) - nI z = nI (240 - z) from pk_sub (a := 240) (by omega), if_neg (nI_pos (by omega)), if_pos (nI_lt (by omega) (by omega))]
          unfold f_X7_ring
          rw [hi N, bd1_t, if_neg (by decide), hin, bd1_t, if_pos rfl]
    · refine ⟨-2, rn, rb, mr, ?_, ?_, hR⟩
      · unfold f_X6_ring
        rw [(hx N).1, bd1_t, if_pos rfl]
      · have hin : f_X7_in N a1 0 ((240 : Int32) - nI z) = some 0 := by
          rw [show (240 : Int32) - nI z = nI (240 - z) from pk_sub (a := 240) (by omega)]
          unfold f_X7_in
          by_cases h0 : a1 < 0
          · rw [if_pos h0]
          · rw [if_neg h0, if_pos]
            have h9 := (hx N).2
            unfold f_X7_in at h9
            rw [if_neg h0] at h9
            by_cases h8 : (239 : Int32) < a1
            · rw [Int32.lt_iff_toInt_lt] at h8 ⊢
              rw [nI_toInt (by omega)]
              have : (239 : Int32).toInt = 239 := by decide
              omega
            · rw [if_neg h8] at h9
              exact absurd h9 (by decide)
        unfold f_X7_ring
        rw [hi N, bd1_t, if_neg (by decide), hin, bd1_t, if_pos rfl]
  · refine ⟨-2, rn, rb, mr, ?_, badm (hi N), hR⟩
    unfold f_X6_ring
    rcases box_or a1 with ⟨f, hf, rfl⟩ | hx
    · rw [isBox_in hf, bd1_t, if_neg (by decide)]
      rcases hz with hz | hz
      · rw [if_pos hz]
      · have : ¬ a2 < 1 := fun h => by
          rw [Int32.lt_iff_toInt_lt] at h hz
          have e1 : (1 : Int32).toInt = 1 := by decide
          have e2 : (40 : Int32).toInt = 40 := by decide
          omega
        rw [if_neg this, if_pos hz]
    · rw [(hx N).1, bd1_t, if_pos rfl]
