/-! rings: the turn of a ring with fewer balls than half its boxes is one to one -/
theorem clamp (r : Nat) (B : Nat → Bool) : ∀ k, ∃ a b : Int, 0 ≤ a ∧ a ≤ b ∧ b ≤ r ∧ ∀ h, h ≤ r → (hs r B h k : Int) = max a (min b (h + 2 * cnt B k - k))
  | 0 => ⟨0, r, by omega, by omega, by omega, fun h hh => by simp only [hs, cnt]; omega⟩
  | k + 1 => by
    obtain ⟨a, b, h0, h1, h2, h3⟩ := clamp r B k
    rcases ft (B k) with q | q
    · refine ⟨max 0 (a - 1), max 0 (b - 1), by omega, by omega, by omega, fun h hh => ?_⟩
      have := h3 h hh
      simp only [hs, cnt, q, stp]
      simp only [Bool.false_eq_true, ↓reduceIte]
      omega
    · refine ⟨min r (a + 1), min r (b + 1), by omega, by omega, by omega, fun h hh => ?_⟩
      have := h3 h hh
      simp only [hs, cnt, q, stp]
      simp only [↓reduceIte]
      split <;> omega
theorem fix_A {r n : Nat} {B : Nat → Bool} (hm : 2 * cnt B n < n) : hs r B (hs r B 0 n) n = hs r B 0 n ∧ ∀ h, h ≤ r → hs r B h n = h → h = hs r B 0 n := by
  obtain ⟨a, b, h0, h1, h2, h3⟩ := clamp r B n
  have e0 := h3 0 (by omega)
  have eA := h3 (hs r B 0 n) (hs_le (by omega) n)
  refine ⟨by omega, fun h hh e => ?_⟩
  have := h3 h hh
  rw [e] at this
  omega
theorem cons_nb (r : Nat) (B : Nat → Bool) (h : Nat) : ∀ k, cnt (nb r B h) k + hs r B h k = cnt B k + h
  | 0 => by simp [cnt, hs]
  | k + 1 => by
    have ih := cons_nb r B h k
    simp only [cnt, hs]
    rw [show nb r B h k = nbv r (B k) (hs r B h k) from rfl]
    generalize cnt (nb r B h) k = e at ih
    generalize hs r B h k = g at ih
    unfold nbv stp
    rcases ft (B k) with q | q
    · rcases Nat.eq_zero_or_pos g with rfl | h0
      · simp [q]; omega
      · simp [q, h0]; omega
    · by_cases c : g < r
      · simp [q, c]; omega
      · simp [q, c]; omega
theorem rev1 {r h : Nat} (b : Bool) (hh : h ≤ r) : stp r (nbv r b h) (stp r b h) = h ∧ nbv r (nbv r b h) (stp r b h) = b := by
  unfold nbv stp
  cases b
  · rcases Nat.eq_zero_or_pos h with rfl | h0
    · simp
    · have : h - 1 < r := by omega
      simp [h0, this]; omega
  · by_cases c : h < r
    · simp [c]
    · simp [c]
theorem cnt_rev (c : Nat → Bool) : ∀ n, cnt (fun k => c (n - 1 - k)) n = cnt c n
  | 0 => rfl
  | n + 1 => by
    have e := cnt_add (fun k => c (n + 1 - 1 - k)) 1 n
    rw [show 1 + n = n + 1 by omega] at e
    rw [e]
    have ih := cnt_rev c n
    have e2 : cnt (fun k => c (n + 1 - 1 - (1 + k))) n = cnt c n := by
      rw [← ih]
      exact cnt_cong n (fun k hk => by show c _ = c _; congr 1; omega)
    rw [e2]
    simp only [cnt, Nat.add_sub_cancel, Nat.sub_zero]
    omega
theorem rev_hs {r n : Nat} {B : Nat → Bool} {A : Nat} (hA : A ≤ r) (hf : hs r B A n = A) : ∀ k, k ≤ n → hs r (fun k => nb r B A (n - 1 - k)) A k = hs r B A (n - k)
  | 0, _ => by simp only [hs, Nat.sub_zero]; exact hf.symm
  | k + 1, hk => by
    have ih := rev_hs hA hf k (by omega)
    have e : n - k = (n - 1 - k) + 1 := by omega
    simp only [hs]
    rw [ih, e, show n - (k + 1) = n - 1 - k by omega]
    simp only [hs]
    exact (rev1 (B (n - 1 - k)) (hs_le hA _)).1
theorem rev_fix {r n : Nat} {B : Nat → Bool} (hm : 2 * cnt B n < n) : cnt (nb r B (hs r B 0 n)) n = cnt B n ∧ hs r B 0 n = hs r (fun k => nb r B (hs r B 0 n) (n - 1 - k)) 0 n := by
  have hA := (fix_A (r := r) hm).1
  have hl : hs r B 0 n ≤ r := hs_le (by omega) n
  have hc := cons_nb r B (hs r B 0 n) n
  rw [hA] at hc
  have hc : cnt (nb r B (hs r B 0 n)) n = cnt B n := by omega
  refine ⟨hc, ?_⟩
  have h2 := rev_hs hl hA n (Nat.le_refl n)
  rw [Nat.sub_self] at h2
  simp only [hs] at h2
  exact (fix_A (r := r) (B := fun k => nb r B (hs r B 0 n) (n - 1 - k)) (by rw [cnt_rev]; omega)).2 _ hl h2
/-- the starts of n boxes and m balls -/
def St (n m x : Nat) : Prop := x < 2 ^ n ∧ cnt (fun k => x.testBit k) n = m
theorem tn_St {r n m x : Nat} (hm : 2 * m < n) (h : St n m x) : St n m (tn r n x) := by
  refine ⟨tn_lt r n x, ?_⟩
  rw [show cnt (fun k => (tn r n x).testBit k) n = cnt (nb r (fun k => x.testBit k) (tA r n x)) n from cnt_cong n (fun k hk => bn_tb _ n k hk)]
  have := (rev_fix (r := r) (n := n) (B := fun k => x.testBit k) (by rw [h.2]; omega)).1
  rw [← h.2]
  exact this
theorem tn_inj {r n m x y : Nat} (hm : 2 * m < n) (hx : St n m x) (hy : St n m y) (e : tn r n x = tn r n y) : x = y := by
  have fx := rev_fix (r := r) (n := n) (B := fun k => x.testBit k) (by rw [hx.2]; omega)
  have fy := rev_fix (r := r) (n := n) (B := fun k => y.testBit k) (by rw [hy.2]; omega)
  have ax := (fix_A (r := r) (n := n) (B := fun k => x.testBit k) (by rw [hx.2]; omega)).1
  have ay := (fix_A (r := r) (n := n) (B := fun k => y.testBit k) (by rw [hy.2]; omega)).1
  have e1 : ∀ k, k < n → nb r (fun k => x.testBit k) (tA r n x) k = nb r (fun k => y.testBit k) (tA r n y) k := by
    intro k hk
    rw [← bn_tb (nb r (fun k => x.testBit k) (tA r n x)) n k hk, ← bn_tb (nb r (fun k => y.testBit k) (tA r n y)) n k hk]
    exact congrArg (fun z => z.testBit k) e
  have eA : tA r n x = tA r n y := by
    unfold tA
    rw [fx.2, fy.2]
    exact hs_cong n (fun k hk => e1 (n - 1 - k) (by omega))
  have lx := tA_le r n x
  have key : ∀ k, k ≤ n → hs r (fun k => x.testBit k) (tA r n x) (n - k) = hs r (fun k => y.testBit k) (tA r n x) (n - k) := by
    intro k
    induction k with
    | zero =>
      intro _
      rw [Nat.sub_zero]
      show hs r _ (hs r _ 0 n) n = _
      rw [ax]
      rw [eA]
      exact eA.trans ay.symm
    | succ k ih =>
      intro hk
      have ih := ih (by omega)
      have r1 := (rev1 (r := r) (x.testBit (n - (k + 1))) (hs_le (B := fun k => x.testBit k) lx (n - (k + 1)))).1
      have r2 := (rev1 (r := r) (y.testBit (n - (k + 1))) (hs_le (B := fun k => y.testBit k) lx (n - (k + 1)))).1
      have e2 := e1 (n - (k + 1)) (by omega)
      rw [← eA] at e2
      rw [show n - k = n - (k + 1) + 1 by omega] at ih
      simp only [hs] at ih
      unfold nb at e2
      rw [← r1, ← r2]
      exact congr (congrArg (stp r) e2) ih
  apply Nat.eq_of_testBit_eq
  intro i
  by_cases hi : i < n
  · have r1 := (rev1 (r := r) (x.testBit i) (hs_le (B := fun k => x.testBit k) lx i)).2
    have r2 := (rev1 (r := r) (y.testBit i) (hs_le (B := fun k => y.testBit k) lx i)).2
    have e2 := e1 i hi
    rw [← eA] at e2
    have k1 := key (n - (i + 1)) (by omega)
    rw [show n - (n - (i + 1)) = i + 1 by omega] at k1
    simp only [hs] at k1
    unfold nb at e2
    rw [← r1, ← r2]
    exact congr (congrArg (nbv r) e2) k1
  · rw [Nat.testBit_lt_two_pow (Nat.lt_of_lt_of_le hx.1 (Nat.pow_le_pow_right (by omega) (by omega))), Nat.testBit_lt_two_pow (Nat.lt_of_lt_of_le hy.1 (Nat.pow_le_pow_right (by omega) (by omega)))]
/-- turned k times -/
def itn (r n x : Nat) : Nat → Nat
  | 0 => x
  | k + 1 => tn r n (itn r n x k)
theorem itn_St {r n m x : Nat} (hm : 2 * m < n) (h : St n m x) : ∀ k, St n m (itn r n x k)
  | 0 => h
  | k + 1 => tn_St hm (itn_St hm h k)
theorem itn_back {r n m x : Nat} (hm : 2 * m < n) (h : St n m x) : ∀ i d, itn r n x i = itn r n x (i + d) → itn r n x d = x
  | 0, d, e => by rw [Nat.zero_add] at e; exact e.symm
  | i + 1, d, e => by
    rw [show i + 1 + d = i + d + 1 by omega] at e
    exact itn_back hm h i d (tn_inj hm (itn_St hm h i) (itn_St hm h (i + d)) e)
theorem least (P : Nat → Prop) : ∀ N, (∃ k, k < N ∧ P k) → ∃ k, k < N ∧ P k ∧ ∀ j, j < k → ¬ P j
  | 0, ⟨k, h, _⟩ => by omega
  | N + 1, ⟨k, h, hp⟩ => by
    by_cases c : ∃ k, k < N ∧ P k
    · obtain ⟨k, h1, h2, h3⟩ := least P N c
      exact ⟨k, by omega, h2, h3⟩
    · refine ⟨k, h, hp, fun j hj hq => c ⟨j, by omega, hq⟩⟩
theorem per_ex {r n m x : Nat} (hm : 2 * m < n) (h : St n m x) : ∃ p, 1 ≤ p ∧ p ≤ 2 ^ n ∧ itn r n x p = x ∧ ∀ i, 1 ≤ i → i < p → itn r n x i ≠ x := by
  obtain ⟨i, j, h1, h2, h3⟩ := fb_twice (m := 2 ^ n) (n := 2 ^ n + 1) (f := itn r n x) (fun i _ => (itn_St hm h i).1) (by omega)
  have e := itn_back hm h i (j - i) (by rw [show i + (j - i) = j by omega]; exact h3)
  obtain ⟨p, q1, q2, q3⟩ := least (fun p => itn r n x (p + 1) = x) (2 ^ n) ⟨j - i - 1, by omega, by rw [show j - i - 1 + 1 = j - i by omega]; exact e⟩
  exact ⟨p + 1, by omega, by omega, q2, fun i h1 h2 => by
    have := q3 (i - 1) (by omega)
    rwa [show i - 1 + 1 = i by omega] at this⟩
theorem itn_ne {r n m x p : Nat} (hm : 2 * m < n) (h : St n m x) (hp : ∀ i, 1 ≤ i → i < p → itn r n x i ≠ x) {i j : Nat} (hi : 1 ≤ i) (hij : i < j) (hj : j ≤ p) : itn r n x i ≠ itn r n x j := by
  intro e
  have := itn_back hm h i (j - i) (by rw [show i + (j - i) = j by omega]; exact e)
  exact hp (j - i) (by omega) (by omega) this
theorem prd_p {r n x p : Nat} (hp1 : 1 ≤ p) (hp2 : p ≤ 20000) (h1 : itn r n x p = x) (h2 : ∀ i, 1 ≤ i → i < p → itn r n x i ≠ x) : ∀ j t, t + j = 20000 → t < p → prd r n x j (t + 1) (itn r n x t) = nI p := by
  intro j
  induction j with
  | zero => intro t h; omega
  | succ j ih =>
    intro t ht hp
    rw [prd]
    by_cases c : t + 1 = p
    · rw [if_pos (by subst c; exact h1), c]
    · rw [if_neg (show ¬ tn r n (itn r n x t) = x from h2 (t + 1) (by omega) (by omega))]
      exact ih (t + 1) (by omega) (by omega)
theorem prd_tn {r n m b : Nat} (hm : 2 * m < n) (hb : St n m b) : ∀ j t y, St n m y → prd r n (tn r n b) j t (tn r n y) = prd r n b j t y := by
  intro j
  induction j with
  | zero => intro t y hy; rfl
  | succ j ih =>
    intro t y hy
    rw [prd, prd]
    by_cases c : tn r n y = b
    · rw [if_pos c, if_pos (congrArg (tn r n) c)]
    · rw [if_neg c, if_neg (fun e => c (tn_inj hm (tn_St hm hy) hb e)), ih (t + 1) _ (tn_St hm hy)]
/-- a start's period -/
def Pr (r n x : Nat) : Int32 := prd r n x 20000 1 x
theorem Pr_it {r n m b : Nat} (hm : 2 * m < n) (hb : St n m b) : ∀ i, Pr r n (itn r n b i) = Pr r n b
  | 0 => rfl
  | i + 1 => (prd_tn hm (itn_St hm hb i) 20000 1 _ (itn_St hm hb i)).trans (Pr_it hm hb i)
