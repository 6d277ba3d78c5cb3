/-! rings -/
def bn (B : Nat → Bool) : Nat → Nat
  | 0 => 0
  | k + 1 => bn B k + if B k then 2 ^ k else 0
theorem bn_lt (B : Nat → Bool) : ∀ k, bn B k < 2 ^ k
  | 0 => by simp [bn]
  | k + 1 => by
    have := bn_lt B k
    simp only [bn]
    rw [Nat.pow_succ]
    split <;> omega
theorem bn_tb (B : Nat → Bool) : ∀ n k, k < n → (bn B n).testBit k = B k
  | 0, _, h => by omega
  | n + 1, k, h => by
    have hl := bn_lt B n
    simp only [bn]
    by_cases e : k = n
    · subst e
      cases hb : B k
      · simp only [Bool.false_eq_true, ↓reduceIte, Nat.add_zero]
        exact Nat.testBit_lt_two_pow hl
      · simp only [↓reduceIte]
        rw [Nat.add_comm, Nat.testBit_two_pow_add_eq, Nat.testBit_lt_two_pow hl]
        rfl
    · have ih := bn_tb B n k (by omega)
      cases hb : B n
      · simp only [Bool.false_eq_true, ↓reduceIte, Nat.add_zero]
        exact ih
      · simp only [↓reduceIte]
        rw [Nat.add_comm, Nat.testBit_two_pow_add_gt (by omega)]
        exact ih
theorem bn_cong {B C : Nat → Bool} : ∀ n, (∀ k, k < n → B k = C k) → bn B n = bn C n
  | 0, _ => rfl
  | n + 1, h => by simp only [bn]; rw [bn_cong n (fun k hk => h k (by omega)), h n (by omega)]
theorem bn_self {b : Nat} : ∀ {n : Nat}, b < 2 ^ n → bn (fun k => b.testBit k) n = b := by
  intro n h
  apply Nat.eq_of_testBit_eq
  intro i
  by_cases hi : i < n
  · rw [bn_tb _ n i hi]
  · rw [Nat.testBit_lt_two_pow (Nat.lt_of_lt_of_le (bn_lt _ n) (Nat.pow_le_pow_right (by omega) (by omega))), Nat.testBit_lt_two_pow (Nat.lt_of_lt_of_le h (Nat.pow_le_pow_right (by omega) (by omega)))]
theorem bI_l (x : Bool) : (bI x).toInt64 = lN (if x then 1 else 0) := by cases x <;> rfl
theorem p40 {n k : Nat} (h : k < 2 ^ n) (hn : n ≤ 40) : k < 2 ^ 40 := Nat.lt_of_lt_of_le h (Nat.pow_le_pow_right (by omega) hn)
theorem bn_or (B : Nat → Bool) {k : Nat} (hk : k < 40) : lN (bn B k) ||| shlL (bI (B k)).toInt64 (nI k) = lN (bn B (k + 1)) := by
  unfold shlL
  rw [bI_l, wb_shl _ (by omega), Int64.or_comm, Nat.mul_comm, fb_or_sumL _ (bn_lt B k)]
  simp only [bn]
  congr 1
  cases B k <;> simp <;> omega
theorem rball {b k : Nat} (hb : b < 2 ^ 40) (hk : k < 40) (N : Nat) : f_X1_ballAt N (nI k) (lN b) = some (bI (b.testBit k)) := by
  unfold f_X1_ballAt ushL
  rw [wb_shr (by omega) (by omega), lN_i, show (1 : Int32) = nI (2 ^ 1 - 1) from rfl, fa_mask, Nat.testBit_eq_decide_div_mod_eq]
  congr 1
  have h2 : b / 2 ^ k % 2 < 2 := Nat.mod_lt _ (by omega)
  rw [Nat.pow_one]
  by_cases c : b / 2 ^ k % 2 = 1
  · rw [c]; rfl
  · rw [show b / 2 ^ k % 2 = 0 by omega]; rfl
theorem hs_cong {r : Nat} {B C : Nat → Bool} {h0 : Nat} : ∀ n, (∀ k, k < n → B k = C k) → hs r B h0 n = hs r C h0 n
  | 0, _ => rfl
  | n + 1, h => by simp only [hs]; rw [hs_cong n (fun k hk => h k (by omega)), h n (by omega)]
theorem cround (N : Nat) (hN : 25000 ≤ N) {r n b h0 : Nat} (hr : r ≤ 50) (hn : n ≤ 40) (hb : b < 2 ^ n) (hh : h0 ≤ r) (mk : Int64) (ch : Int32) :
    f_X1_goRound N (nI r) (nI h0) (nI n) (lN b) mk ch = some (lN (bn (nb r (fun k => b.testBit k) h0) n), nI (hs r (fun k => b.testBit k) h0 n)) := by
  unfold f_X1_goRound
  obtain ⟨⟨x, y⟩, ⟨h1, h2⟩, e⟩ := loop_ex (σ := Int32 × Int64) (fun j k a => L_X1_goRound_8 N (nI r) (nI n) (lN b) (fun y6 y7 => (some (y7, y6))) j a.1 a.2 (nI k)) (fun a => some (a.2, a.1))
    (fun k a => a.1 = nI (hs r (fun k => b.testBit k) h0 k) ∧ a.2 = lN (bn (nb r (fun k => b.testBit k) h0) k)) n
    (fun j a h => by simp only [L_X1_goRound_8, tle (Nat.le_refl n) (show n < 2 ^ 31 by omega), ↓reduceIte])
    (fun j k a hk h => by
      obtain ⟨x, y⟩ := a
      obtain ⟨h1, h2⟩ := h
      simp only at h1 h2
      subst h1 h2
      have hl := hs_le (r := r) (B := fun k => b.testBit k) hh k
      refine ⟨(nI (hs r (fun k => b.testBit k) h0 (k + 1)), lN (bn (nb r (fun k => b.testBit k) h0) (k + 1))), ?_, rfl, rfl⟩
      simp only [L_X1_goRound_8, nle hk (show n < 2 ^ 31 by omega), ↓reduceIte, rball (p40 hb hn) (show k < 40 by omega), bd1_t, load_eq (b.testBit k) (show r < 1000 by omega) hl N, made_eq, nI1]
      rw [← bn_or (nb r (fun k => b.testBit k) h0) (show k < 40 by omega)]
      rfl)
    n 0 N (nI h0, 0) (by omega) (by omega) ⟨rfl, rfl⟩
  simp only at h1 h2 e
  rw [h1, h2] at e
  exact e
/-- a turn of a ring -/
def tA (r n b : Nat) : Nat := hs r (fun k => b.testBit k) 0 n
def tn (r n b : Nat) : Nat := bn (nb r (fun k => b.testBit k) (tA r n b)) n
theorem tn_lt (r n b : Nat) : tn r n b < 2 ^ n := bn_lt _ n
theorem tA_le (r n b : Nat) : tA r n b ≤ r := hs_le (Nat.zero_le r) n
theorem cturn (N : Nat) (hN : 25000 ≤ N) {r n b : Nat} (hr : r ≤ 50) (hn : n ≤ 40) (hb : b < 2 ^ n) (mk : Int64) (ch : Int32) :
    ∃ c', f_X1_turnBy N (nI r) (nI n) (lN b) mk ch = some (nI (tA r n b), lN (tn r n b), lN (tn r n b), c') := by
  unfold f_X1_turnBy
  have ha := tA_le r n b
  rw [show (0 : Int32) = nI 0 from rfl, cround N hN hr hn hb (Nat.zero_le r), bd2_t]
  by_cases c : tA r n b = 0
  · refine ⟨nI (tA r n b), ?_⟩
    rw [if_pos (show nI (hs r (fun k => b.testBit k) 0 n) = nI 0 from congrArg nI c)]
    unfold tn
    rw [c]
    exact congrArg (fun z => some (nI z, lN (bn (nb r (fun k => b.testBit k) 0) n), lN (bn (nb r (fun k => b.testBit k) 0) n), nI z)) c
  · rw [if_neg (show ¬ nI (hs r (fun k => b.testBit k) 0 n) = nI 0 from fun e => c (by
      have := (nI0 (show tA r n b < 1000 by omega)).mp e
      exact this))]
    refine ⟨nI (hs r (fun k => b.testBit k) (tA r n b) n), ?_⟩
    rw [show hs r (fun k => b.testBit k) 0 n = tA r n b from rfl, cround N hN hr hn hb ha, bd2_t]
    rfl
theorem n40 {k n : Nat} (h : k < n) (hn : n ≤ 40) : inb (nI k) 40 = true := inb_t (by omega) (by decide)
theorem mturns (N : Nat) (hN : 25000 ≤ N) {r n b : Nat} (hr : r ≤ 50) (hn : n ≤ 40) (mr : Nat → Int32) (hm : ∀ k, k < n → mr k = bI (b.testBit k)) :
    ∃ m', f_X7_turns N (nI r) (nI n) mr = some (nI (tA r n b), m') ∧ (∀ k, k < n → m' k = bI ((tn r n b).testBit k)) ∧ ∀ k, n ≤ k → m' k = mr k := by
  unfold f_X7_turns
  have ha := tA_le r n b
  obtain ⟨m', ⟨g1, g2, g3⟩, e2⟩ := loop_ex (σ := Int32 × (Nat → Int32)) (fun j k a => L_X7_turns_57 N (nI r) (nI n) (fun u20 => (some (nI (tA r n b), u20))) j a.1 (nI k) a.2) (fun a => some (nI (tA r n b), a.2))
    (fun k a => a.1 = nI (hs r (fun k => b.testBit k) (tA r n b) k) ∧ (∀ j, j < k → a.2 j = bI (nb r (fun k => b.testBit k) (tA r n b) j)) ∧ ∀ j, k ≤ j → a.2 j = mr j) n
    (fun j a h => by simp only [L_X7_turns_57, tle (Nat.le_refl n) (show n < 2 ^ 31 by omega), ↓reduceIte])
    (fun j k a hk h => by
      obtain ⟨x, m⟩ := a
      obtain ⟨h1, h2, h3⟩ := h
      simp only at h1 h2 h3
      subst h1
      have hl := hs_le (r := r) (B := fun k => b.testBit k) ha k
      have e6 : m k = bI (b.testBit k) := by rw [h3 k (Nat.le_refl k), hm k hk]
      have e0 : upd m k (bI (b.testBit k)) = m := by
        funext z
        by_cases ez : z = k
        · subst ez; rw [upd_s, e6]
        · rw [upd_n ez]
      refine ⟨(nI (hs r (fun k => b.testBit k) (tA r n b) (k + 1)), upd m k (bI (nb r (fun k => b.testBit k) (tA r n b) k))), ?_, rfl, ?_, ?_⟩
      · simp only [L_X7_turns_57, nle hk (show n < 2 ^ 31 by omega), ↓reduceIte, n40 hk hn, ck_t, nI_clamp (show k < 2 ^ 31 by omega), e6, nI1, hs, nb]
        generalize hs r (fun k => b.testBit k) (tA r n b) k = g at hl
        cases hb : b.testBit k
        · rw [hb] at e0
          simp only [bI_f, i00, ↓reduceIte, nar_1] at e0 ⊢
          rcases Nat.eq_zero_or_pos g with rfl | h0
          · rw [if_pos (by decide)]
            simp [stp, nbv, bI_f, e0]
          · rw [if_neg (show ¬ nI g ≤ 0 from nI_nle h0 (by omega)), nIm1 h0]
            simp [stp, nbv, h0, bI_t]
        · rw [hb] at e0
          simp only [bI_t, i10, ↓reduceIte, nar_0] at e0 ⊢
          by_cases c : g < r
          · rw [if_neg (nI_ge c (by omega))]
            simp [stp, nbv, c, bI_f]
          · rw [if_pos (nI_le (Nat.le_of_not_lt c) (by omega))]
            simp [stp, nbv, c, bI_t, e0]
      · intro z hz
        by_cases ez : z = k
        · subst ez; exact upd_s
        · dsimp only
          rw [upd_n ez]
          exact h2 z (by omega)
      · intro z hz
        dsimp only
        rw [upd_n (by omega)]
        exact h3 z (by omega))
    n 0 N (nI (tA r n b), mr) (by omega) (by omega) ⟨rfl, fun _ h => by omega, fun _ _ => rfl⟩
  obtain ⟨x, h1, e1⟩ := loop_ex (σ := Int32) (fun j k a => L_X7_turns_4 N (nI r) (nI n) mr (fun y6 => (L_X7_turns_57 N (nI r) (nI n) (fun u20 => (some (y6, u20))) N y6 (0 : Int32) mr)) j a (nI k)) (fun y6 => L_X7_turns_57 N (nI r) (nI n) (fun u20 => (some (y6, u20))) N y6 (0 : Int32) mr)
    (fun k a => a = nI (hs r (fun k => b.testBit k) 0 k)) n
    (fun j a h => by simp only [L_X7_turns_4, tle (Nat.le_refl n) (show n < 2 ^ 31 by omega), ↓reduceIte])
    (fun j k a hk h => by
      subst h
      have hl := hs_le (r := r) (B := fun k => b.testBit k) (Nat.zero_le r) k
      refine ⟨nI (hs r (fun k => b.testBit k) 0 (k + 1)), ?_, rfl⟩
      simp only [L_X7_turns_4, nle hk (show n < 2 ^ 31 by omega), ↓reduceIte, n40 hk hn, ck_t, nI_clamp (show k < 2 ^ 31 by omega), hm k hk, nI1, hs, add0]
      generalize hs r (fun k => b.testBit k) 0 k = g at hl
      cases hb : b.testBit k
      · simp only [bI_f, i00, ↓reduceIte]
        rcases Nat.eq_zero_or_pos g with rfl | h0
        · rw [if_pos (by decide)]
          simp [stp]
        · rw [if_neg (show ¬ nI g ≤ 0 from nI_nle h0 (by omega)), nIm1 h0]
          simp [stp]
      · simp only [bI_t, i10, ↓reduceIte]
        by_cases c : g < r
        · rw [if_neg (nI_ge c (by omega))]
          simp [stp, c]
        · rw [if_pos (nI_le (Nat.le_of_not_lt c) (by omega))]
          simp [stp, c])
    n 0 N 0 (by omega) (by omega) rfl
  have h1 : x = nI (tA r n b) := h1
  subst h1
  exact ⟨m'.2, e1.trans e2, fun k hk => by rw [g2 k hk]; unfold tn; rw [bn_tb _ n k hk], fun k hk => g3 k hk⟩
theorem pu_ringAt (N : Nat) (hN : 25000 ≤ N) (a1 : Int32) (rn : Int32) (rb : Int64) (mr : (Nat → Int32)) (hR : RR rn rb mr) : ∃ (r : Int32), f_X6_ringAt N a1 rn rb = some r ∧ f_X7_ringAt N a1 rn mr = some r := by
  obtain ⟨n, b, hn1, hn2, rfl, rfl, hb, hm⟩ := hR
  unfold f_X6_ringAt f_X7_ringAt
  have e9 : nI n - 1 = nI (n - 1) := pk_sub (b := 1) hn1
  rcases pk_ix a1 (n := n) (by omega) with h | h | ⟨j, hj, rfl⟩
  · refine ⟨-2, ?_, ?_⟩
    · have : f_X1_isRingBox N a1 (nI n) = some 0 := by unfold f_X1_isRingBox; rw [if_pos h]
      rw [this, bd1_t, if_pos rfl]
    · have : f_X7_in N a1 0 (nI n - 1) = some 0 := by unfold f_X7_in; rw [if_pos h]
      rw [this, bd1_t, if_pos rfl]
  · have h0 : ¬ a1 < 0 := fun c => by
      rw [Int32.lt_iff_toInt_lt] at c
      rw [Int32.le_iff_toInt_le, nI_toInt (by omega)] at h
      have : (0 : Int32).toInt = 0 := by decide
      omega
    refine ⟨-2, ?_, ?_⟩
    · have : f_X1_isRingBox N a1 (nI n) = some 0 := by unfold f_X1_isRingBox; rw [if_neg h0, if_pos h]
      rw [this, bd1_t, if_pos rfl]
    · have : f_X7_in N a1 0 (nI n - 1) = some 0 := by
        unfold f_X7_in
        rw [if_neg h0, if_pos]
        rw [e9, Int32.lt_iff_toInt_lt, nI_toInt (by omega)]
        rw [Int32.le_iff_toInt_le, nI_toInt (by omega)] at h
        omega
      rw [this, bd1_t, if_pos rfl]
  · refine ⟨bI (b.testBit j), ?_, ?_⟩
    · have : f_X1_isRingBox N (nI j) (nI n) = some 1 := by unfold f_X1_isRingBox; rw [if_neg (nI_pos (by omega)), if_neg (nI_ge hj (by omega))]
      rw [this, bd1_t, if_neg (by decide), rball (p40 hb hn2) (by omega), bd1_t]
    · have : f_X7_in N (nI j) 0 (nI n - 1) = some 1 := by
        unfold f_X7_in
        rw [e9, if_neg (nI_pos (by omega)), if_neg (nI_nlt (by omega) (by omega))]
      rw [this, bd1_t, if_neg (by decide), n40 hj hn2, ck_t, nI_clamp (by omega), hm j hj]
      cases b.testBit j <;> rfl
theorem pu_turn (N : Nat) (hN : 25000 ≤ N) (a1 : Int32) (rn : Int32) (rb : Int64) (rm : Int64) (rc : Int32) (mr : (Nat → Int32)) (hR : RR rn rb mr) : ∃ (r : Int32) (rb' : Int64) (rm' : Int64) (rc' : Int32) (mr' : (Nat → Int32)), f_X6_turn N a1 rn rb rm rc = some (r, rb', rm', rc') ∧ f_X7_turn N a1 rn mr = some (r, mr') ∧ RR rn rb' mr' := by
  obtain ⟨n, b, hn1, hn2, rfl, rfl, hb, hm⟩ := id hR
  unfold f_X6_turn f_X7_turn
  rcases room_or a1 with ⟨r, h1, h2, rfl, hi⟩ | hi
  · obtain ⟨c', e1⟩ := cturn N hN h2 hn2 hb rm rc
    obtain ⟨m', e2, g1, -⟩ := mturns N hN h2 hn2 mr hm
    refine ⟨nI (tA r n b), lN (tn r n b), lN (tn r n b), c', m', ?_, ?_, n, tn r n b, hn1, hn2, rfl, rfl, tn_lt r n b, g1⟩
    · rw [(hi N).1, bd1_t, if_neg (by decide), e1, bd4_t]
    · rw [(hi N).2, bd1_t, if_neg (by decide), e2, bd2_t]
  · refine ⟨-2, lN b, rm, rc, mr, ?_, ?_, hR⟩
    · rw [(hi N).1, bd1_t, if_pos rfl]
    · rw [(hi N).2, bd1_t, if_pos rfl]
