/-! heaps by pairs -/
def rm : List Bool → List Bool
  | [] => []
  | false :: l => false :: rm l
  | [true] => []
  | true :: false :: l => rm l
  | true :: true :: l => true :: rm (true :: l)
def ct : List Bool → Nat
  | [] => 0
  | false :: l => ct l
  | [true] => 1
  | true :: false :: l => 1 + ct l
  | true :: true :: l => ct (true :: l)
def bl : List Bool → Nat
  | [] => 0
  | b :: l => (if b then 1 else 0) + bl l
theorem ct_true (m : List Bool) : ct (true :: m) ≤ ct m + 1 := by
  match m with
  | [] => simp [ct]
  | false :: l => simp only [ct]; omega
  | true :: l => simp only [ct]; omega
theorem ct_mono : ∀ (n : Nat) (l : List Bool), l.length ≤ n → ct (rm l) ≤ ct l ∧ (∀ m, l = true :: m → ct (true :: rm l) ≤ ct l)
  | 0, l, h => by
    obtain rfl : l = [] := List.length_eq_zero_iff.mp (by omega)
    exact ⟨Nat.le_refl _, fun m e => by cases e⟩
  | n + 1, l, h => by
    match l, h with
    | [], _ => exact ⟨Nat.le_refl _, fun m e => by cases e⟩
    | false :: l, h =>
      have := (ct_mono n l (by simp at h; omega)).1
      exact ⟨by simp only [rm, ct]; exact this, fun m e => by cases e⟩
    | [true], _ => exact ⟨by simp [rm, ct], fun m e => by simp [rm, ct]⟩
    | true :: false :: l, h =>
      have h1 := (ct_mono n l (by simp at h; omega)).1
      have h2 := ct_true (rm l)
      exact ⟨by simp only [rm, ct]; omega, fun m e => by simp only [rm, ct]; omega⟩
    | true :: true :: l, h =>
      have h1 := (ct_mono n (true :: l) (by simp at h ⊢; omega)).2 l rfl
      exact ⟨by simp only [rm, ct]; exact h1, fun m e => by simp only [rm, ct]; exact h1⟩
theorem ct_rm (l : List Bool) : ct (rm l) ≤ ct l := (ct_mono l.length l (Nat.le_refl _)).1
theorem bl_rm : ∀ (n : Nat) (l : List Bool), l.length ≤ n → bl (rm l) + ct l = bl l ∧ (rm l).length ≤ l.length
  | 0, l, h => by
    obtain rfl : l = [] := List.length_eq_zero_iff.mp (by omega)
    exact ⟨rfl, Nat.le_refl _⟩
  | n + 1, l, h => by
    match l, h with
    | [], _ => exact ⟨rfl, Nat.le_refl _⟩
    | false :: l, h =>
      have := bl_rm n l (by simp at h; omega)
      exact ⟨by simp [rm, ct, bl]; omega, by simp [rm]; omega⟩
    | [true], _ => exact ⟨by simp [rm, ct, bl], by simp [rm]⟩
    | true :: false :: l, h =>
      have := bl_rm n l (by simp at h; omega)
      exact ⟨by simp [rm, ct, bl]; omega, by simp [rm]; omega⟩
    | true :: true :: l, h =>
      have := bl_rm n (true :: l) (by simp at h ⊢; omega)
      simp only [bl] at this
      exact ⟨by simp [rm, ct, bl] at this ⊢; omega, by simp [rm] at this ⊢; omega⟩
theorem ct_pos : ∀ (n : Nat) (l : List Bool), l.length ≤ n → 0 < bl l → 0 < ct l
  | 0, l, h, hb => by
    obtain rfl : l = [] := List.length_eq_zero_iff.mp (by omega)
    simp [bl] at hb
  | n + 1, l, h, hb => by
    match l, h with
    | [], _ => simp [bl] at hb
    | false :: l, h => exact ct_pos n l (by simp at h; omega) (by simpa [bl] using hb)
    | [true], _ => simp [ct]
    | true :: false :: l, h => simp only [ct]; omega
    | true :: true :: l, h =>
      simp only [ct]
      exact ct_pos n (true :: l) (by simp at h ⊢; omega) (by simp only [bl, ↓reduceIte]; omega)
theorem ct_le_bl (l : List Bool) : ct l ≤ bl l := by have := (bl_rm l.length l (Nat.le_refl _)).1; omega
theorem bl_le (l : List Bool) : bl l ≤ l.length := by
  induction l with
  | nil => exact Nat.le_refl _
  | cons b l ih => simp only [bl, List.length_cons]; split <;> omega
/-- an array holds a list from a place on -/
def Hd (f : Nat → Int32) (k : Nat) (l : List Bool) : Prop := ∀ i, i < l.length → f (k + i) = bI (l.getD i false)
theorem Hd.head {f : Nat → Int32} {k : Nat} {b : Bool} {l : List Bool} (h : Hd f k (b :: l)) : f k = bI b := by
  have := h 0 (by simp)
  simpa using this
theorem Hd.tail {f : Nat → Int32} {k : Nat} {b : Bool} {l : List Bool} (h : Hd f k (b :: l)) : Hd f (k + 1) l := fun i hi => by
  have := h (i + 1) (by simp; omega)
  rw [show k + (i + 1) = k + 1 + i by omega] at this
  simpa using this
theorem Hd.keep {f : Nat → Int32} {k j : Nat} {x : Int32} {l : List Bool} (h : Hd f k l) (hj : j < k) : Hd (upd f j x) k l := fun i hi => by
  rw [upd_n (by omega)]; exact h i hi
theorem Hd.push {f : Nat → Int32} {o : List Bool} {b : Bool} (h : Hd f 0 o) : Hd (upd f o.length (bI b)) 0 (o ++ [b]) := fun i hi => by
  simp only [List.length_append, List.length_cons, List.length_nil] at hi
  rw [Nat.zero_add]
  by_cases e : i = o.length
  · subst e; rw [upd_s]; simp
  · rw [upd_n e]
    have := h i (by omega)
    rw [Nat.zero_add] at this
    rw [this]
    congr 1
    simp only [List.getD_eq_getElem?_getD]
    rw [List.getElem?_append_left (by omega)]
theorem nI2 (k : Nat) : nI k + (2 : Int32) = nI (k + 2) := nI_add k 2
theorem ctake (N s : Nat) (hs : s ≤ 240) (K : Int32 → Int32 → (Nat → Int32) → Option (Int32 × Int32 × (Nat → Int32))) :
    ∀ (m : Nat) (r o : List Bool) (c k n : Nat) (f : Nat → Int32), r.length ≤ m → m < n → (k + r.length = s ∨ (r = [] ∧ s ≤ k ∧ k ≤ s + 1)) → o.length ≤ k → Hd f 0 o → Hd f k r →
      ∃ f', L_X0_takeOut_6 N (nI s) K n (nI c) (nI o.length) (nI k) f = K (nI (c + ct r)) (nI (o ++ rm r).length) f' ∧ Hd f' 0 (o ++ rm r) := by
  intro m
  induction m using Nat.strongRecOn with
  | _ m ih =>
    intro r o c k n f hm hn hk ho h1 h2
    obtain ⟨n, rfl⟩ : ∃ z, n = z + 1 := ⟨n - 1, by omega⟩
    rw [L_X0_takeOut_6]
    match r, hm, hk, h2 with
    | [], hm, hk, h2 =>
      rw [if_pos (nI_le (show s ≤ k by rcases hk with h | h; simp at h; omega; omega) (by rcases hk with h | h; simp at h; omega; omega))]
      refine ⟨f, ?_, by simpa [rm] using h1⟩
      simp [rm, ct]
    | false :: r, hm, hk, h2 =>
      have hks : k + (r.length + 1) = s := by rcases hk with h | h; simpa using h; cases h.1
      have e1 : (nI s ≤ nI k) = False := nle (by omega) (by omega)
      have e2 := n240 (show k < 240 by omega)
      have e3 : inb (nI k) 240 = true := inb_t (by omega) (by decide)
      have e4 : (nI k).toNatClampNeg = k := nI_clamp (by omega)
      have e5 : inb (nI o.length) 240 = true := inb_t (by omega) (by decide)
      have e6 : (nI o.length).toNatClampNeg = o.length := nI_clamp (by omega)
      have e7 : f k = 0 := h2.head
      obtain ⟨f', g1, g2⟩ := ih (m - 1) (by simp at hm; omega) r (o ++ [false]) c (k + 1) n (upd f o.length (bI false)) (by simp at hm; omega) (by simp at hm; omega) (Or.inl (by omega)) (by simp; omega) h1.push (h2.tail.keep (by omega))
      refine ⟨f', ?_, by simpa [rm] using g2⟩
      have g3 : L_X0_takeOut_6 N (nI s) K n (nI c) (nI (o.length + 1)) (nI (k + 1)) (upd f o.length 0) = K (nI (c + ct (false :: r))) (nI (o ++ rm (false :: r)).length) f' := by
        simpa [rm, ct, bI_f] using g1
      simp only [e1, e2, e3, e4, e5, e6, e7, ↓reduceIte, ck_t, i00, nI1, g3]
      by_cases c1 : s ≤ k + 1
      · rw [if_pos (nI_le c1 (by omega))]
      · have e8 : inb (nI (k + 1)) 240 = true := inb_t (by omega) (by decide)
        rw [if_neg (nI_ge (by omega) (by omega)), e8, ck_t]
        simp only [ite_self]
    | [true], hm, hk, h2 =>
      have hks : k + 1 = s := by rcases hk with h | h; simpa using h; cases h.1
      have e1 : (nI s ≤ nI k) = False := nle (by omega) (by omega)
      have e2 := n240 (show k < 240 by omega)
      have e3 : inb (nI k) 240 = true := inb_t (by omega) (by decide)
      have e4 : (nI k).toNatClampNeg = k := nI_clamp (by omega)
      have e7 : f k = 1 := h2.head
      obtain ⟨f', g1, g2⟩ := ih (m - 1) (by simp at hm; omega) [] o (c + 1) (k + 2) n f (by simp) (by simp at hm; omega) (Or.inr ⟨rfl, by omega, by omega⟩) (by omega) h1 (fun i hi => by simp at hi)
      refine ⟨f', ?_, by simpa [rm] using g2⟩
      have g3 : L_X0_takeOut_6 N (nI s) K n (nI (c + 1)) (nI o.length) (nI (k + 2)) f = K (nI (c + ct [true])) (nI (o ++ rm [true]).length) f' := by
        simpa [rm, ct] using g1
      simp only [e1, e2, e3, e4, e7, ↓reduceIte, ck_t, i10, nI1, nI2, tle (show s ≤ k + 1 by omega) (show k + 1 < 2 ^ 31 by omega), g3]
    | true :: false :: r, hm, hk, h2 =>
      have hks : k + (r.length + 2) = s := by rcases hk with h | h; simpa using h; cases h.1
      have e1 : (nI s ≤ nI k) = False := nle (by omega) (by omega)
      have e2 := n240 (show k < 240 by omega)
      have e3 : inb (nI k) 240 = true := inb_t (by omega) (by decide)
      have e4 : (nI k).toNatClampNeg = k := nI_clamp (by omega)
      have e7 : f k = 1 := h2.head
      have e8 : f (k + 1) = 0 := h2.tail.head
      obtain ⟨f', g1, g2⟩ := ih (m - 2) (by simp at hm; omega) r o (c + 1) (k + 2) n f (by simp at hm; omega) (by simp at hm; omega) (Or.inl (by omega)) (by omega) h1 h2.tail.tail
      refine ⟨f', ?_, by simpa [rm] using g2⟩
      have g3 : L_X0_takeOut_6 N (nI s) K n (nI (c + 1)) (nI o.length) (nI (k + 2)) f = K (nI (c + ct (true :: false :: r))) (nI (o ++ rm (true :: false :: r)).length) f' := by
        rw [g1]; simp only [rm, ct]; rw [show c + 1 + ct r = c + (1 + ct r) by omega]
      simp only [e1, e2, e3, e4, e7, e8, ↓reduceIte, ck_t, i10, i00, nI1, nI2, nle (show k + 1 < s by omega) (show s < 2 ^ 31 by omega), n240 (show k + 1 < 240 by omega), inb_t (show k + 1 < 240 by omega) (by decide : 240 < 2 ^ 31), nI_clamp (show k + 1 < 2 ^ 31 by omega), g3]
    | true :: true :: r, hm, hk, h2 =>
      have hks : k + (r.length + 2) = s := by rcases hk with h | h; simpa using h; cases h.1
      have e1 : (nI s ≤ nI k) = False := nle (by omega) (by omega)
      have e2 := n240 (show k < 240 by omega)
      have e3 : inb (nI k) 240 = true := inb_t (by omega) (by decide)
      have e4 : (nI k).toNatClampNeg = k := nI_clamp (by omega)
      have e5 : inb (nI o.length) 240 = true := inb_t (by omega) (by decide)
      have e6 : (nI o.length).toNatClampNeg = o.length := nI_clamp (by omega)
      have e7 : f k = 1 := h2.head
      have e8 : f (k + 1) = 1 := h2.tail.head
      obtain ⟨f', g1, g2⟩ := ih (m - 1) (by simp at hm; omega) (true :: r) (o ++ [true]) c (k + 1) n (upd f o.length (bI true)) (by simp at hm ⊢; omega) (by simp at hm; omega) (Or.inl (by simp; omega)) (by simp; omega) h1.push (h2.tail.keep (by omega))
      refine ⟨f', ?_, by simpa [rm] using g2⟩
      have g3 : L_X0_takeOut_6 N (nI s) K n (nI c) (nI (o.length + 1)) (nI (k + 1)) (upd f o.length 1) = K (nI (c + ct (true :: true :: r))) (nI (o ++ rm (true :: true :: r)).length) f' := by
        simpa [rm, ct, bI_t] using g1
      simp only [e1, e2, e3, e4, e5, e6, e7, e8, ↓reduceIte, ck_t, i10, i00, nI1, nle (show k + 1 < s by omega) (show s < 2 ^ 31 by omega), n240 (show k + 1 < 240 by omega), inb_t (show k + 1 < 240 by omega) (by decide : 240 < 2 ^ 31), nI_clamp (show k + 1 < 2 ^ 31 by omega), g3]
theorem ctakeOut (N : Nat) (hN : 25000 ≤ N) (l : List Bool) (hl : l.length ≤ 240) (f : Nat → Int32) (h : Hd f 0 l) : ∃ f', f_X0_takeOut N (nI l.length) f = some (nI (ct l), nI (rm l).length, f') ∧ Hd f' 0 (rm l) := by
  unfold f_X0_takeOut
  obtain ⟨f', e, h'⟩ := ctake N l.length hl (fun y61 y62 u63 => (some (y61, y62, u63))) l.length l [] 0 0 N f (Nat.le_refl _) (by omega) (Or.inl (by omega)) (Nat.le_refl _) (fun i hi => by simp at hi) h
  refine ⟨f', ?_, by simpa using h'⟩
  rw [Nat.zero_add, List.nil_append] at e
  exact e
theorem mtake (N s t : Nat) (hs : s ≤ 240) (ht : t < 240) (K : Int32 → (Nat → Int32) → (Nat → Int32) → Option (Int32 × (Nat → Int32) × (Nat → Int32))) :
    ∀ (m : Nat) (r o : List Bool) (c k n : Nat) (f p : Nat → Int32), r.length ≤ m → m < n → (k + r.length = s ∨ (r = [] ∧ s ≤ k ∧ k ≤ s + 1)) → o.length ≤ k → Hd f 0 o → Hd f k r → p t = nI c →
      ∃ f' p', L_X7_pairRounds_59 N (nI s) (nI t) K n (nI o.length) (nI k) f p = K (nI (o ++ rm r).length) f' p' ∧ Hd f' 0 (o ++ rm r) ∧ p' t = nI (c + ct r) ∧ ∀ j, j ≠ t → p' j = p j := by
  intro m
  induction m using Nat.strongRecOn with
  | _ m ih =>
    intro r o c k n f p hm hn hk ho h1 h2 hp
    obtain ⟨n, rfl⟩ : ∃ z, n = z + 1 := ⟨n - 1, by omega⟩
    rw [L_X7_pairRounds_59]
    have t1 : inb (nI t) 240 = true := inb_t ht (by decide)
    have t2 : (nI t).toNatClampNeg = t := nI_clamp (by omega)
    match r, hm, hk, h2 with
    | [], hm, hk, h2 =>
      rw [if_pos (nI_le (show s ≤ k by rcases hk with h | h; simp at h; omega; omega) (by rcases hk with h | h; simp at h; omega; omega))]
      refine ⟨f, p, by simp [rm], by simpa [rm] using h1, by simp [ct, hp], fun _ _ => rfl⟩
    | false :: r, hm, hk, h2 =>
      have hks : k + (r.length + 1) = s := by rcases hk with h | h; simpa using h; cases h.1
      have e7 : f k = 0 := h2.head
      obtain ⟨f', p', g1, g2, g4, g5⟩ := ih (m - 1) (by simp at hm; omega) r (o ++ [false]) c (k + 1) n (upd f o.length (bI false)) p (by simp at hm; omega) (by simp at hm; omega) (Or.inl (by omega)) (by simp; omega) h1.push (h2.tail.keep (by omega)) hp
      refine ⟨f', p', ?_, by simpa [rm] using g2, by simpa [ct] using g4, g5⟩
      have g3 : L_X7_pairRounds_59 N (nI s) (nI t) K n (nI (o.length + 1)) (nI (k + 1)) (upd f o.length 0) p = K (nI (o ++ rm (false :: r)).length) f' p' := by
        simpa [rm, bI_f] using g1
      simp only [nle (show k < s by omega) (show s < 2 ^ 31 by omega), inb_t (show k < 240 by omega) (by decide : 240 < 2 ^ 31), nI_clamp (show k < 2 ^ 31 by omega), inb_t (show o.length < 240 by omega) (by decide : 240 < 2 ^ 31), nI_clamp (show o.length < 2 ^ 31 by omega), e7, ↓reduceIte, ck_t, i00, nI1, nar_0, g3]
    | [true], hm, hk, h2 =>
      have hks : k + 1 = s := by rcases hk with h | h; simpa using h; cases h.1
      have e7 : f k = 1 := h2.head
      obtain ⟨f', p', g1, g2, g4, g5⟩ := ih (m - 1) (by simp at hm; omega) [] o (c + 1) (k + 2) n f (upd p t (nI (c + 1))) (by simp) (by simp at hm; omega) (Or.inr ⟨rfl, by omega, by omega⟩) (by omega) h1 (fun i hi => by simp at hi) upd_s
      refine ⟨f', p', ?_, by simpa [rm] using g2, by simpa [ct] using g4, fun j hj => by rw [g5 j hj, upd_n hj]⟩
      have g3 : L_X7_pairRounds_59 N (nI s) (nI t) K n (nI o.length) (nI (k + 2)) f (upd p t (nI (c + 1))) = K (nI (o ++ rm [true]).length) f' p' := by
        simpa [rm] using g1
      have e9 : (nI (k + 1) = nI s) = True := eq_true (by rw [hks])
      simp only [nle (show k < s by omega) (show s < 2 ^ 31 by omega), inb_t (show k < 240 by omega) (by decide : 240 < 2 ^ 31), nI_clamp (show k < 2 ^ 31 by omega), e7, ↓reduceIte, ck_t, i10, nI1, nI2, e9, t1, t2, hp, g3]
    | true :: false :: r, hm, hk, h2 =>
      have hks : k + (r.length + 2) = s := by rcases hk with h | h; simpa using h; cases h.1
      have e7 : f k = 1 := h2.head
      have e8 : f (k + 1) = 0 := h2.tail.head
      obtain ⟨f', p', g1, g2, g4, g5⟩ := ih (m - 2) (by simp at hm; omega) r o (c + 1) (k + 2) n f (upd p t (nI (c + 1))) (by simp at hm; omega) (by simp at hm; omega) (Or.inl (by omega)) (by omega) h1 h2.tail.tail upd_s
      refine ⟨f', p', ?_, by simpa [rm] using g2, by rw [g4]; simp only [ct]; rw [show c + 1 + ct r = c + (1 + ct r) by omega], fun j hj => by rw [g5 j hj, upd_n hj]⟩
      have g3 : L_X7_pairRounds_59 N (nI s) (nI t) K n (nI o.length) (nI (k + 2)) f (upd p t (nI (c + 1))) = K (nI (o ++ rm (true :: false :: r)).length) f' p' := by
        rw [g1]; simp only [rm]
      have e9 : (nI (k + 1) = nI s) = False := eq_false (by rw [nI_eq (by omega) (by omega)]; omega)
      simp only [nle (show k < s by omega) (show s < 2 ^ 31 by omega), inb_t (show k < 240 by omega) (by decide : 240 < 2 ^ 31), nI_clamp (show k < 2 ^ 31 by omega), e7, e8, ↓reduceIte, ck_t, i10, i00, nI1, nI2, e9, t1, t2, hp, inb_t (show k + 1 < 240 by omega) (by decide : 240 < 2 ^ 31), nI_clamp (show k + 1 < 2 ^ 31 by omega), g3]
    | true :: true :: r, hm, hk, h2 =>
      have hks : k + (r.length + 2) = s := by rcases hk with h | h; simpa using h; cases h.1
      have e7 : f k = 1 := h2.head
      have e8 : f (k + 1) = 1 := h2.tail.head
      obtain ⟨f', p', g1, g2, g4, g5⟩ := ih (m - 1) (by simp at hm; omega) (true :: r) (o ++ [true]) c (k + 1) n (upd f o.length (bI true)) p (by simp at hm ⊢; omega) (by simp at hm; omega) (Or.inl (by simp; omega)) (by simp; omega) h1.push (h2.tail.keep (by omega)) hp
      refine ⟨f', p', ?_, by simpa [rm] using g2, by simpa [ct] using g4, g5⟩
      have g3 : L_X7_pairRounds_59 N (nI s) (nI t) K n (nI (o.length + 1)) (nI (k + 1)) (upd f o.length 1) p = K (nI (o ++ rm (true :: true :: r)).length) f' p' := by
        simpa [rm, bI_t] using g1
      have e9 : (nI (k + 1) = nI s) = False := eq_false (by rw [nI_eq (by omega) (by omega)]; omega)
      simp only [nle (show k < s by omega) (show s < 2 ^ 31 by omega), inb_t (show k < 240 by omega) (by decide : 240 < 2 ^ 31), nI_clamp (show k < 2 ^ 31 by omega), inb_t (show o.length < 240 by omega) (by decide : 240 < 2 ^ 31), nI_clamp (show o.length < 2 ^ 31 by omega), e7, e8, ↓reduceIte, ck_t, i10, nI1, e9, inb_t (show k + 1 < 240 by omega) (by decide : 240 < 2 ^ 31), nI_clamp (show k + 1 < 2 ^ 31 by omega), nar_1, g3]
def rmi : Nat → List Bool → List Bool
  | 0, l => l
  | t + 1, l => rmi t (rm l)
theorem mrounds (N : Nat) (hN : 25000 ≤ N) (K : Int32 → (Nat → Int32) → (Nat → Int32) → Option (Int32 × (Nat → Int32) × (Nat → Int32))) :
    ∀ (b : Nat) (l : List Bool) (t n : Nat) (f p : Nat → Int32), bl l = b → l.length ≤ 240 → t + b ≤ 240 → b < n → Hd f 0 l →
      ∃ (R : Nat) (f' p' : Nat → Int32), L_X7_pairRounds_42 N K n (nI l.length) (nI b) (nI t) f p = K (nI (t + R)) f' p' ∧ (∀ j, j < R → p' (t + j) = nI (ct (rmi j l))) ∧ (∀ j, j < t → p' j = p j) ∧ bl (rmi R l) = 0 ∧ R ≤ b ∧ (R = 0 → b = 0) := by
  intro b
  induction b using Nat.strongRecOn with
  | _ b ih =>
    intro l t n f p hb hl ht hn h
    obtain ⟨n, rfl⟩ : ∃ z, n = z + 1 := ⟨n - 1, by omega⟩
    rw [L_X7_pairRounds_42]
    rcases Nat.eq_zero_or_pos b with rfl | h0
    · rw [if_pos (by decide)]
      exact ⟨0, f, p, rfl, fun j hj => by omega, fun _ _ => rfl, hb, Nat.le_refl _, fun _ => rfl⟩
    · rw [if_neg (show ¬ nI b ≤ 0 from nI_nle h0 (by omega)), inb_t (show t < 240 by omega) (by decide), ck_t, nI_clamp (show t < 2 ^ 31 by omega)]
      obtain ⟨f1, p1, e1, h1, q1, q2⟩ := mtake N l.length t hl (by omega) (fun y23 u24 u25 => (ck true (L_X7_pairRounds_42 N K n y23 (nI b - (u25 t)) (nI t + (1 : Int32)) u24 u25))) l.length l [] 0 0 N f (upd p t 0) (Nat.le_refl _) (by omega) (Or.inl (by omega)) (Nat.le_refl _) (fun i hi => by simp at hi) h upd_s
      have hbr := bl_rm l.length l (Nat.le_refl _)
      have hcp := ct_pos l.length l (Nat.le_refl _) (by omega)
      obtain ⟨R, f2, p2, e2, g1, g2, g3, g4, g5⟩ := ih (bl (rm l)) (by omega) (rm l) (t + 1) n f1 p1 rfl (by omega) (by omega) (by omega) (by simpa using h1)
      refine ⟨R + 1, f2, p2, ?_, ?_, ?_, g3, by omega, fun e => by omega⟩
      · have e3 : L_X7_pairRounds_59 N (nI l.length) (nI t) (fun y23 u24 u25 => (ck true (L_X7_pairRounds_42 N K n y23 (nI b - (u25 t)) (nI t + (1 : Int32)) u24 u25))) N 0 0 f (upd p t 0) = L_X7_pairRounds_42 N K n (nI (rm l).length) (nI b - p1 t) (nI t + 1) f1 p1 := by
          have := e1
          rw [List.nil_append, ck_t] at this
          exact this
        rw [e3, q1, Nat.zero_add, pk_sub (by omega), nI1, show b - ct l = bl (rm l) by omega, e2, show t + 1 + R = t + (R + 1) by omega]
      · intro j hj
        match j with
        | 0 =>
          rw [Nat.add_zero, g2 t (by omega), q1, Nat.zero_add]
          rfl
        | j + 1 =>
          rw [show t + (j + 1) = t + 1 + j by omega, g1 j (by omega)]
          rfl
      · intro j hj
        rw [g2 j (by omega), q2 j (by omega), upd_n (by omega)]
/-- the row as a list -/
def rl (B : Nat → Bool) : Nat → Nat → List Bool
  | _, 0 => []
  | k, n + 1 => B k :: rl B (k + 1) n
theorem rl_len (B : Nat → Bool) : ∀ n k, (rl B k n).length = n
  | 0, _ => rfl
  | n + 1, k => by simp [rl, rl_len B n]
theorem rl_get (B : Nat → Bool) : ∀ n k i, i < n → (rl B k n).getD i false = B (k + i)
  | 0, _, _, h => by omega
  | n + 1, k, 0, _ => by simp [rl]
  | n + 1, k, i + 1, h => by
    have := rl_get B n (k + 1) i (by omega)
    simp only [rl, List.getD_cons_succ]
    rw [this, show k + 1 + i = k + (i + 1) by omega]
theorem rl_bl (B : Nat → Bool) : ∀ n k, bl (rl B k n) + cnt B k = cnt B (k + n)
  | 0, k => by simp [rl, bl]
  | n + 1, k => by
    have := rl_bl B n (k + 1)
    simp only [rl, bl]
    rw [show k + (n + 1) = k + 1 + n by omega, ← this]
    simp only [cnt]
    omega
theorem rl_bl0 (B : Nat → Bool) (n : Nat) : bl (rl B 0 n) = cnt B n := by
  have := rl_bl B n 0
  simpa [cnt] using this
theorem mpairs (N : Nat) (hN : 25000 ≤ N) (mb ml mp : Nat → Int32) (B : Nat → Bool) (hB : ∀ k, k < 240 → mb k = bI (B k)) :
    ∃ (R : Nat) (f' p' : Nat → Int32), f_X7_pairRounds N mb ml mp = some (nI R, f', p') ∧ (∀ j, j < R → p' j = nI (ct (rmi j (rl B 0 240)))) ∧ bl (rmi R (rl B 0 240)) = 0 ∧ R ≤ 240 ∧ (R = 0 → bl (rl B 0 240) = 0) := by
  unfold f_X7_pairRounds
  rw [mballs N hN mb B hB, bd1_t]
  obtain ⟨l', h3, e3⟩ := loop_ex (σ := Nat → Int32) (fun n k a => L_X7_pairRounds_14 N mb (fun u6 => (L_X7_pairRounds_42 N  (fun y27 u28 u29 => (some (y27, u28, u29))) N (240 : Int32) (nI (cnt B 240)) (0 : Int32) u6 mp)) n (nI k) a) (fun a => L_X7_pairRounds_42 N  (fun y27 u28 u29 => (some (y27, u28, u29))) N (240 : Int32) (nI (cnt B 240)) (0 : Int32) a mp)
    (fun k a => ∀ j, j < k → a j = bI (B j)) 240
    (fun n a h => by simp only [L_X7_pairRounds_14, t240, ↓reduceIte])
    (fun n k a hk h => by
      refine ⟨upd a k (bI (B k)), ?_, fun j hj => ?_⟩
      · simp only [L_X7_pairRounds_14, n240 hk, ↓reduceIte, inb_t hk (by decide : 240 < 2 ^ 31), ck_t, nI_clamp (show k < 2 ^ 31 by omega), nI1, hB k hk, nar_b]
      · by_cases ej : j = k
        · subst ej; exact upd_s
        · rw [upd_n ej]; exact h j (by omega))
    240 0 N ml rfl (by omega) (fun j hj => by omega)
  have hc := cnt_le B 240
  obtain ⟨R, f', p', e4, g1, -, g3, g4, g5⟩ := mrounds N hN (fun y27 u28 u29 => (some (y27, u28, u29))) (cnt B 240) (rl B 0 240) 0 N l' mp (rl_bl0 B 240) (by rw [rl_len]; omega) (by omega) (by omega) (fun i hi => by rw [rl_len] at hi; rw [rl_get B 240 0 i hi, Nat.zero_add]; exact h3 i hi)
  rw [rl_len, Nat.zero_add] at e4
  refine ⟨R, f', p', e3.trans e4, fun j hj => by have := g1 j hj; rwa [Nat.zero_add] at this, g3, by omega, fun e => by rw [rl_bl0]; exact g5 e⟩
theorem cbegin (N : Nat) (hN : 25000 ≤ N) (cb pl : Nat → Int32) (ps : Int32) (B : Nat → Bool) (hB : ∀ k, k < 240 → cb k = bI (B k)) :
    ∃ f', f_X0_begin N ps pl cb = some (nI (rl B 0 240).length, f') ∧ Hd f' 0 (rl B 0 240) := by
  unfold f_X0_begin
  obtain ⟨l', h3, e3⟩ := loop_ex (σ := Nat → Int32) (fun n k a => L_X0_begin_2 N cb (fun u5 => (some ((240 : Int32), u5))) n (nI k) a) (fun a => some (240, a))
    (fun k a => ∀ j, j < k → a j = bI (B j)) 240
    (fun n a h => by simp only [L_X0_begin_2, t240, ↓reduceIte])
    (fun n k a hk h => by
      refine ⟨upd a k (bI (B k)), ?_, fun j hj => ?_⟩
      · simp only [L_X0_begin_2, n240 hk, ↓reduceIte, ballAt_in hk, bd1_t, inb_t hk (by decide : 240 < 2 ^ 31), ck_t, nI_clamp (show k < 2 ^ 31 by omega), nI1, hB k hk]
      · by_cases ej : j = k
        · subst ej; exact upd_s
        · rw [upd_n ej]; exact h j (by omega))
    240 0 N pl rfl (by omega) (fun j hj => by omega)
  refine ⟨l', ?_, fun i hi => by rw [rl_len] at hi; rw [rl_get B 240 0 i hi, Nat.zero_add]; exact h3 i hi⟩
  rw [rl_len]
  exact e3
/-- how many rounds have a count above v, till the first that hasn't -/
def fa (v : Nat) : Nat → List Bool → Nat
  | 0, _ => 0
  | j + 1, l => if v < ct l then fa v j (rm l) + 1 else 0
def hc (v : Nat) : Nat → List Bool → Nat
  | 0, _ => 0
  | j + 1, l => hc v j (rm l) + if v < ct l then 1 else 0
theorem hc_0 (v : Nat) : ∀ (R : Nat) (l : List Bool), ct l ≤ v → hc v R l = 0
  | 0, _, _ => rfl
  | R + 1, l, h => by
    have := ct_rm l
    simp only [hc]
    rw [hc_0 v R (rm l) (by omega), if_neg (by omega)]
theorem hc_fa (v : Nat) : ∀ (R j : Nat) (l : List Bool), R ≤ j → bl (rmi R l) = 0 → hc v R l = fa v j l
  | 0, j, l, _, h => by
    have h1 := ct_le_bl l
    have h2 : bl l = 0 := h
    cases j with
    | zero => rfl
    | succ j => simp only [hc, fa]; rw [if_neg (by omega)]
  | R + 1, 0, l, h, _ => by omega
  | R + 1, j + 1, l, h, hb => by
    simp only [hc, fa]
    by_cases c : v < ct l
    · rw [if_pos c, if_pos c, hc_fa v R j (rm l) (by omega) hb]
    · have := ct_rm l
      rw [if_neg c, if_neg c, hc_0 v R (rm l) (by omega)]
