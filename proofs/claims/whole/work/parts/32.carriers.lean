/-! carriers -/
def stp (r : Nat) (b : Bool) (h : Nat) : Nat := if b then (if h < r then h + 1 else h) else h - 1
def nbv (r : Nat) (b : Bool) (h : Nat) : Bool := if b then !(decide (h < r)) else decide (0 < h)
def hs (r : Nat) (B : Nat → Bool) (h0 : Nat) : Nat → Nat
  | 0 => h0
  | k + 1 => stp r (B k) (hs r B h0 k)
def nb (r : Nat) (B : Nat → Bool) (h0 : Nat) (k : Nat) : Bool := nbv r (B k) (hs r B h0 k)
theorem stp_le {r : Nat} {b : Bool} {h : Nat} (hh : h ≤ r) : stp r b h ≤ r := by
  unfold stp
  cases b
  · simp; omega
  · simp; split <;> omega
theorem hs_le {r : Nat} {B : Nat → Bool} {h0 : Nat} (h : h0 ≤ r) : ∀ k, hs r B h0 k ≤ r
  | 0 => h
  | k + 1 => stp_le (hs_le h k)
theorem load_eq {r h : Nat} (b : Bool) (hr : r < 1000) (hh : h ≤ r) (N : Nat) : f_X6_loadBehind N (nI h) (bI b) (nI r) = some (nI (stp r b h)) := by
  unfold f_X6_loadBehind stp
  cases b
  · rw [bI_f, if_pos rfl]
    rcases Nat.eq_zero_or_pos h with rfl | h0
    · rfl
    · rw [if_neg (show ¬ nI h ≤ 0 from nI_nle h0 (by omega))]
      obtain ⟨h, rfl⟩ : ∃ z, h = z + 1 := ⟨h - 1, by omega⟩
      rw [nI_pred]
      rfl
  · rw [bI_t, if_neg (by decide)]
    simp only [↓reduceIte]
    by_cases c : h < r
    · rw [if_neg (nI_ge c (by omega)), if_pos c, nI1]
    · rw [if_pos (nI_le (Nat.le_of_not_lt c) (by omega)), if_neg c]
theorem Int32.sub_self' (x : Int32) : x - x = 0 := Int32.sub_self x
theorem made_eq {r h : Nat} (b : Bool) : bI b + nI h - nI (stp r b h) = bI (nbv r b h) := by
  unfold stp nbv
  cases b
  · rcases Nat.eq_zero_or_pos h with rfl | h0
    · simp only [Bool.false_eq_true, ↓reduceIte, Nat.zero_sub, Nat.lt_irrefl, decide_false]
      decide
    · obtain ⟨h, rfl⟩ : ∃ z, h = z + 1 := ⟨h - 1, by omega⟩
      simp only [Bool.false_eq_true, ↓reduceIte, Nat.add_sub_cancel, Nat.zero_lt_succ, decide_true]
      rw [nI_succ, bI_f, bI_t, Int32.zero_add]
      rw [Int32.add_comm, Int32.add_sub_cancel]
  · by_cases c : h < r
    · simp only [c, ↓reduceIte, decide_true, Bool.not_true]
      rw [nI_succ, bI_t, bI_f, Int32.add_comm, Int32.sub_self]
    · simp only [c, ↓reduceIte, decide_false, Bool.not_false]
      rw [bI_t, Int32.add_sub_cancel]
def ixv (ah : Bool) (k : Nat) : Nat := if ah then k else 239 - k
theorem ixv_lt {ah : Bool} {k : Nat} (h : k < 240) : ixv ah k < 240 := by unfold ixv; split <;> omega
theorem ixv_inj {ah : Bool} {j k : Nat} (hj : j < 240) (hk : k < 240) (e : j ≠ k) : ixv ah j ≠ ixv ah k := by unfold ixv; split <;> omega
theorem sub239 {k : Nat} (h : k < 240) : (239 : Int32) - nI k = nI (239 - k) := pk_sub (a := 239) (by omega)
theorem cmake (N : Nat) (hN : 25000 ≤ N) {r : Nat} (hr : r ≤ 50) (ah : Bool) (cb cm : Nat → Int32) (B : Nat → Bool) (hB : ∀ k, k < 240 → cb k = bI (B k)) :
    ∃ m', f_X3_makeByCarrier N (nI r) (bI ah) cb cm = some (nI (hs r (fun k => B (ixv ah k)) 0 240), m') ∧ ∀ k, k < 240 → m' (ixv ah k) = bI (nb r (fun k => B (ixv ah k)) 0 k) := by
  unfold f_X3_makeByCarrier
  obtain ⟨⟨x, m'⟩, ⟨h1, h2⟩, e⟩ := loop_ex (σ := Int32 × (Nat → Int32)) (fun n k a => L_X3_makeByCarrier_5 N (nI r) (bI ah) cb (fun y15 u16 => (some (y15, u16))) n a.1 (nI k) a.2) (fun a => some (a.1, a.2))
    (fun k a => a.1 = nI (hs r (fun k => B (ixv ah k)) 0 k) ∧ ∀ j, j < k → a.2 (ixv ah j) = bI (nb r (fun k => B (ixv ah k)) 0 j)) 240
    (fun n a h => by
      simp only [L_X3_makeByCarrier_5, t240, ↓reduceIte])
    (fun n k a hk h => by
      obtain ⟨x, m⟩ := a
      obtain ⟨h1, h2⟩ := h
      simp only at h1 h2
      subst h1
      have hx := ixv_lt (ah := ah) hk
      have hh := hs_le (r := r) (B := fun k => B (ixv ah k)) (Nat.zero_le r) k
      refine ⟨(nI (hs r (fun k => B (ixv ah k)) 0 (k + 1)), upd m (ixv ah k) (bI (nb r (fun k => B (ixv ah k)) 0 k))), ?_, rfl, ?_⟩
      · have e1 : f_X3_ballAt N (nI (ixv ah k)) cb = some (bI (B (ixv ah k))) := by rw [ballAt_in hx, hB _ hx]
        have e2 := load_eq (r := r) (h := hs r (fun k => B (ixv ah k)) 0 k) (B (ixv ah k)) (by omega) hh N
        have e3 := makeBox_in hx N (bI (B (ixv ah k)) + nI (hs r (fun k => B (ixv ah k)) 0 k) - nI (stp r (B (ixv ah k)) (hs r (fun k => B (ixv ah k)) 0 k))) m
        rw [made_eq] at e3
        cases ah
        · simp only [ixv, Bool.false_eq_true, ↓reduceIte] at e1 e2 e3
          simp only [L_X3_makeByCarrier_5, n240 hk, ↓reduceIte, bI_f, sub239 hk, e1, e2, bd1_t, made_eq, nI1, hs, nb, ixv, e3, Bool.false_eq_true]
        · simp only [ixv, ↓reduceIte] at e1 e2 e3
          simp only [L_X3_makeByCarrier_5, n240 hk, ↓reduceIte, bI_t, i10, e1, e2, bd1_t, made_eq, nI1, hs, nb, ixv, e3]
      · intro j hj
        by_cases ej : j = k
        · subst ej; exact upd_s
        · dsimp only
          rw [upd_n (ixv_inj (by omega) hk ej)]
          exact h2 j (by omega))
    240 0 N (0, cm) rfl (by omega) ⟨rfl, fun j hj => by omega⟩
  simp only at h1 h2 e
  refine ⟨m', ?_, h2⟩
  rw [← h1]
  exact e
theorem add0 (x : Int32) : x + 0 = x := Int32.add_zero x
theorem nIm1 {h : Nat} (h0 : 0 < h) : nI h + (-1 : Int32) = nI (h - 1) := by
  obtain ⟨h, rfl⟩ : ∃ z, h = z + 1 := ⟨h - 1, by omega⟩
  exact pk_m1 h
theorem upd_u (f : Nat → Int32) (k : Nat) (x y : Int32) : upd (upd f k x) k y = upd f k y := by
  funext j
  by_cases e : j = k
  · subst e; rw [upd_s, upd_s]
  · rw [upd_n e, upd_n e, upd_n e]
theorem mgoes (N : Nat) (hN : 25000 ≤ N) {r : Nat} (hr : r ≤ 50) (ah : Bool) (mb mn : Nat → Int32) (B : Nat → Bool) (hB : ∀ k, k < 240 → mb k = bI (B k)) (K : Int32 → (Nat → Int32) → Option (Int32 × Int32 × (Nat → Int32) × (Nat → Int32))) :
    ∃ m', L_X7_goes_18 N (nI r) (bI (!ah)) mb K N 0 0 mn = K (nI (hs r (fun k => B (ixv ah k)) 0 240)) m' ∧ ∀ k, k < 240 → m' (ixv ah k) = bI (nb r (fun k => B (ixv ah k)) 0 k) := by
  obtain ⟨⟨x, m'⟩, ⟨h1, h2⟩, e⟩ := loop_ex (σ := Int32 × (Nat → Int32)) (fun n k a => L_X7_goes_18 N (nI r) (bI (!ah)) mb K n a.1 (nI k) a.2) (fun a => K a.1 a.2)
    (fun k a => a.1 = nI (hs r (fun k => B (ixv ah k)) 0 k) ∧ ∀ j, j < k → a.2 (ixv ah j) = bI (nb r (fun k => B (ixv ah k)) 0 j)) 240
    (fun n a h => by
      simp only [L_X7_goes_18, t240, ↓reduceIte])
    (fun n k a hk h => by
      obtain ⟨x, m⟩ := a
      obtain ⟨h1, h2⟩ := h
      simp only at h1 h2
      subst h1
      have hx := ixv_lt (ah := ah) hk
      have hh := hs_le (r := r) (B := fun k => B (ixv ah k)) (Nat.zero_le r) k
      refine ⟨(nI (hs r (fun k => B (ixv ah k)) 0 (k + 1)), upd m (ixv ah k) (bI (nb r (fun k => B (ixv ah k)) 0 k))), ?_, rfl, ?_⟩
      · have e4 : inb (nI (ixv ah k)) 240 = true := inb_t hx (by decide)
        have e5 : (nI (ixv ah k)).toNatClampNeg = ixv ah k := nI_clamp (by omega)
        have e6 := hB _ hx
        generalize hg : hs r (fun k => B (ixv ah k)) 0 k = g at hh
        have key : ∀ (X : Int32), X = nI (ixv ah k) →
          (ck (inb X 240) (ck (inb X 240) (ck (inb X 240) (if (mb X.toNatClampNeg) = (0 : Int32) then (ck (inb X 240) (if (mb X.toNatClampNeg) = (0 : Int32) then (if nI g ≤ (0 : Int32) then (L_X7_goes_18 N (nI r) (bI (!ah)) mb K n (nI g) (nI (k + 1)) (upd m X.toNatClampNeg (vp_nar .boolean (mb X.toNatClampNeg)))) else (ck (inb X 240) (L_X7_goes_18 N (nI r) (bI (!ah)) mb K n (nI g + (-1 : Int32)) (nI (k + 1)) (upd (upd m X.toNatClampNeg (vp_nar .boolean (mb X.toNatClampNeg))) X.toNatClampNeg (vp_nar .boolean (1 : Int32)))))) else (L_X7_goes_18 N (nI r) (bI (!ah)) mb K n (nI g) (nI (k + 1)) (upd m X.toNatClampNeg (vp_nar .boolean (mb X.toNatClampNeg)))))) else (if nI r ≤ nI g then (ck (inb X 240) (if (mb X.toNatClampNeg) = (0 : Int32) then (if nI g ≤ (0 : Int32) then (L_X7_goes_18 N (nI r) (bI (!ah)) mb K n (nI g) (nI (k + 1)) (upd m X.toNatClampNeg (vp_nar .boolean (mb X.toNatClampNeg)))) else (ck (inb X 240) (L_X7_goes_18 N (nI r) (bI (!ah)) mb K n (nI g + (-1 : Int32)) (nI (k + 1)) (upd (upd m X.toNatClampNeg (vp_nar .boolean (mb X.toNatClampNeg))) X.toNatClampNeg (vp_nar .boolean (1 : Int32)))))) else (L_X7_goes_18 N (nI r) (bI (!ah)) mb K n (nI g) (nI (k + 1)) (upd m X.toNatClampNeg (vp_nar .boolean (mb X.toNatClampNeg)))))) else (ck (inb X 240) (L_X7_goes_18 N (nI r) (bI (!ah)) mb K n (nI g + (1 : Int32)) (nI (k + 1)) (upd (upd m X.toNatClampNeg (vp_nar .boolean (mb X.toNatClampNeg))) X.toNatClampNeg (vp_nar .boolean (0 : Int32)))))))))) = L_X7_goes_18 N (nI r) (bI (!ah)) mb K n (nI (stp r (B (ixv ah k)) g)) (nI (k + 1)) (upd m (ixv ah k) (bI (nbv r (B (ixv ah k)) g))) := by
          intro X hX
          subst hX
          simp only [e4, ck_t, e5, e6]
          cases hb : B (ixv ah k)
          · simp only [bI_f, i00, ↓reduceIte, nar_0, upd_u, nar_1]
            rcases Nat.eq_zero_or_pos g with rfl | h0
            · rw [if_pos (by decide)]
              simp [stp, nbv, bI_f]
            · rw [if_neg (show ¬ nI g ≤ 0 from nI_nle h0 (by omega)), nIm1 h0]
              simp [stp, nbv, h0, bI_t]
          · simp only [bI_t, i10, ↓reduceIte, nar_0, upd_u, nar_1]
            by_cases c : g < r
            · rw [if_neg (nI_ge c (by omega)), nI1]
              simp [stp, nbv, c, bI_f]
            · rw [if_pos (nI_le (Nat.le_of_not_lt c) (by omega))]
              simp [stp, nbv, c, bI_t]
        have e8 : hs r (fun k => B (ixv ah k)) 0 (k + 1) = stp r (B (ixv ah k)) g := by rw [← hg]; rfl
        have e9 : nb r (fun k => B (ixv ah k)) 0 k = nbv r (B (ixv ah k)) g := by rw [← hg]; rfl
        rw [e8, e9, ← key (nI (ixv ah k)) rfl]
        cases ah
        · simp only [L_X7_goes_18, n240 hk, ↓reduceIte, Bool.not_false, bI_t, i10, sub239 hk, nI1, ixv, Bool.false_eq_true]
        · simp only [L_X7_goes_18, n240 hk, ↓reduceIte, Bool.not_true, bI_f, i00, nI1, ixv]
      · intro j hj
        by_cases ej : j = k
        · subst ej; exact upd_s
        · dsimp only
          rw [upd_n (ixv_inj (by omega) hk ej)]
          exact h2 j (by omega))
    240 0 N (0, mn) rfl (by omega) ⟨rfl, fun j hj => by omega⟩
  simp only at h1 h2 e
  refine ⟨m', ?_, h2⟩
  rw [← h1]
  exact e
/-- in how many boxes two rows differ, up to k -/
def dfc (B C : Nat → Bool) : Nat → Nat
  | 0 => 0
  | k + 1 => dfc B C k + if B k = C k then 0 else 1
theorem bI_inj {x y : Bool} : (bI x = bI y) = (x = y) := by cases x <;> cases y <;> simp [bI]
theorem cbecome (N : Nat) (hN : 25000 ≤ N) (cb cm : Nat → Int32) (B C : Nat → Bool) (hB : ∀ k, k < 240 → cb k = bI (B k)) (hC : ∀ k, k < 240 → cm k = bI (C k)) :
    ∃ c', f_X3_becomeMade N cb cm = some (nI (dfc B C 240), c') ∧ ∀ k, k < 240 → c' k = bI (C k) := by
  unfold f_X3_becomeMade
  obtain ⟨⟨x, c'⟩, ⟨h1, h2, -⟩, e⟩ := loop_ex (σ := Int32 × (Nat → Int32)) (fun n k a => L_X3_becomeMade_4 N cm (fun y9 u10 => (some (y9, u10))) n a.1 (nI k) a.2) (fun a => some (a.1, a.2))
    (fun k a => a.1 = nI (dfc B C k) ∧ (∀ j, j < k → a.2 j = bI (C j)) ∧ ∀ j, k ≤ j → j < 240 → a.2 j = bI (B j)) 240
    (fun n a h => by simp only [L_X3_becomeMade_4, t240, ↓reduceIte])
    (fun n k a hk h => by
      obtain ⟨x, m⟩ := a
      obtain ⟨h1, h2, h3⟩ := h
      simp only at h1 h2 h3
      subst h1
      refine ⟨(nI (dfc B C (k + 1)), upd m k (bI (C k))), ?_, rfl, ?_, ?_⟩
      · simp only [L_X3_becomeMade_4, n240 hk, ↓reduceIte, inb_t hk (by decide : 240 < 2 ^ 31), ck_t, nI_clamp (show k < 2 ^ 31 by omega), h3 k (Nat.le_refl k) hk, hC k hk, bI_inj, nI1, dfc]
        by_cases c : B k = C k
        · simp only [c, ↓reduceIte, Nat.add_zero]
        · simp only [c, ↓reduceIte]
      · intro j hj
        by_cases ej : j = k
        · subst ej; exact upd_s
        · dsimp only
          rw [upd_n ej]
          exact h2 j (by omega)
      · intro j hj hj2
        dsimp only
        rw [upd_n (by omega)]
        exact h3 j (by omega) hj2)
    240 0 N (0, cb) rfl (by omega) ⟨rfl, fun j hj => by omega, fun j _ hj => hB j hj⟩
  simp only at h1 h2 e
  refine ⟨c', ?_, h2⟩
  rw [← h1]
  exact e
theorem mtakes (N : Nat) (hN : 25000 ≤ N) (dn : Int32) (mb mn : Nat → Int32) (B C : Nat → Bool) (hB : ∀ k, k < 240 → mb k = bI (B k)) (hC : ∀ k, k < 240 → mn k = bI (C k)) :
    ∃ c', f_X7_takes N dn mb mn = some (nI (dfc B C 240), dn + 1, c') ∧ ∀ k, k < 240 → c' k = bI (C k) := by
  unfold f_X7_takes
  obtain ⟨⟨x, c'⟩, ⟨h1, h2, -⟩, e⟩ := loop_ex (σ := Int32 × (Nat → Int32)) (fun n k a => L_X7_takes_4 N mn (fun y9 u10 => (some (y9, (dn + (1 : Int32)), u10))) n a.1 (nI k) a.2) (fun a => some (a.1, dn + 1, a.2))
    (fun k a => a.1 = nI (dfc B C k) ∧ (∀ j, j < k → a.2 j = bI (C j)) ∧ ∀ j, k ≤ j → j < 240 → a.2 j = bI (B j)) 240
    (fun n a h => by simp only [L_X7_takes_4, t240, ↓reduceIte])
    (fun n k a hk h => by
      obtain ⟨x, m⟩ := a
      obtain ⟨h1, h2, h3⟩ := h
      simp only at h1 h2 h3
      subst h1
      refine ⟨(nI (dfc B C (k + 1)), upd m k (bI (C k))), ?_, rfl, ?_, ?_⟩
      · simp only [L_X7_takes_4, n240 hk, ↓reduceIte, inb_t hk (by decide : 240 < 2 ^ 31), ck_t, nI_clamp (show k < 2 ^ 31 by omega), h3 k (Nat.le_refl k) hk, hC k hk, bI_inj, nI1, dfc, add0, nar_b]
        by_cases c : B k = C k
        · simp only [c, ↓reduceIte, Nat.add_zero]
        · simp only [c, ↓reduceIte]
      · intro j hj
        by_cases ej : j = k
        · subst ej; exact upd_s
        · dsimp only
          rw [upd_n ej]
          exact h2 j (by omega)
      · intro j hj hj2
        dsimp only
        rw [upd_n (by omega)]
        exact h3 j (by omega) hj2)
    240 0 N (0, mb) rfl (by omega) ⟨rfl, fun j hj => by omega, fun j _ hj => hB j hj⟩
  simp only at h1 h2 e
  refine ⟨c', ?_, h2⟩
  rw [← h1]
  exact e
theorem ixv_ixv {ah : Bool} {j : Nat} (h : j < 240) : ixv ah (ixv ah j) = j := by unfold ixv; split <;> omega
theorem nI0 {h : Nat} (hh : h < 1000) : (nI h = 0) = (h = 0) := by
  rw [show (0 : Int32) = nI 0 from rfl, nI_eq (by omega) (by omega)]
theorem nIle0 {h : Nat} (hh : h < 1000) : (nI h ≤ 0) = (h = 0) := by
  rw [show (0 : Int32) = nI 0 from rfl, nI_leI (by omega) (by omega)]
  simp
theorem pu_carry (N : Nat) (hN : 25000 ≤ N) (ah : Bool) (a1 mv : Int32) (cb cm mb mn : Nat → Int32) (hB : RB cb mb) :
    (∃ r, 1 ≤ r ∧ r ≤ 50 ∧ a1 = nI r ∧ ∃ (z mv' : Int32) (cb' cm' mb' mn' : Nat → Int32), f_X6_carry N a1 (bI ah) mv cb cm = some (z, mv', cb', cm') ∧ f_X7_goes N a1 (bI (!ah)) mv mb mn = some (z, mv', mb', mn') ∧ RB cb' mb' ∧ f_X6_isRoom N a1 = some 1) ∨ (f_X6_isRoom N a1 = some 0 ∧ f_X7_goes N a1 (bI (!ah)) mv mb mn = some (-2, mv, mb, mn)) := by
  rcases room_or a1 with ⟨r, h1, h2, rfl, hi⟩ | hi
  · refine Or.inl ⟨r, h1, h2, rfl, ?_⟩
    obtain ⟨B, b1, b2⟩ := id hB
    obtain ⟨m', e1, g1⟩ := cmake N hN h2 ah cb cm B b1
    have hh := hs_le (r := r) (B := fun k => B (ixv ah k)) (Nat.zero_le r) 240
    have c1 : ∀ k, k < 240 → m' k = bI (nb r (fun k => B (ixv ah k)) 0 (ixv ah k)) := fun k hk => by
      have := g1 (ixv ah k) (ixv_lt hk)
      rw [ixv_ixv hk] at this
      exact this
    obtain ⟨x', e3, g3⟩ := mgoes N hN h2 ah mb mn B b2 (fun y34 u35 => (if y34 ≤ (0 : Int32) then (bd3 (f_X7_takes N mv mb u35) (fun r37 u38 u39 => (some (r37, u38, u39, u35)))) else (some ((-4 : Int32), mv, mb, u35))))
    have c2 : ∀ k, k < 240 → x' k = bI (nb r (fun k => B (ixv ah k)) 0 (ixv ah k)) := fun k hk => by
      have := g3 (ixv ah k) (ixv_lt hk)
      rw [ixv_ixv hk] at this
      exact this
    have m1 : f_X7_goes N (nI r) (bI (!ah)) mv mb mn = L_X7_goes_18 N (nI r) (bI (!ah)) mb (fun y34 u35 => (if y34 ≤ (0 : Int32) then (bd3 (f_X7_takes N mv mb u35) (fun r37 u38 u39 => (some (r37, u38, u39, u35)))) else (some ((-4 : Int32), mv, mb, u35)))) N 0 0 mn := by
      unfold f_X7_goes
      rw [(hi N).2, bd1_t, if_neg (by decide)]
    by_cases c : hs r (fun k => B (ixv ah k)) 0 240 = 0
    · obtain ⟨c', e2, g2⟩ := cbecome N hN cb m' B (fun k => nb r (fun k => B (ixv ah k)) 0 (ixv ah k)) b1 c1
      obtain ⟨d', e4, g4⟩ := mtakes N hN mv mb x' B (fun k => nb r (fun k => B (ixv ah k)) 0 (ixv ah k)) b2 c2
      refine ⟨nI (dfc B (fun k => nb r (fun k => B (ixv ah k)) 0 (ixv ah k)) 240), mv + 1, c', m', d', x', ?_, ?_, ⟨_, g2, g4⟩, (hi N).1⟩
      · unfold f_X6_carry
        rw [e1, bd2_t, if_pos (by rw [c]; rfl), e2, bd2_t]
      · rw [m1, e3, if_pos (by rw [c]; decide), e4, bd3_t]
    · refine ⟨-4, mv, cb, m', mb, x', ?_, ?_, hB, (hi N).1⟩
      · unfold f_X6_carry
        rw [e1, bd2_t, if_neg (by rw [nI0 (by omega)]; exact c)]
      · rw [m1, e3, if_neg (by rw [nIle0 (by omega)]; exact c)]
  · refine Or.inr ⟨(hi N).1, ?_⟩
    unfold f_X7_goes
    rw [(hi N).2, bd1_t, if_pos rfl]
theorem pu_step (N : Nat) (hN : 25000 ≤ N) (a1 : Int32) (mv : Int32) (cb : (Nat → Int32)) (cm : (Nat → Int32)) (mb : (Nat → Int32)) (mn : (Nat → Int32)) (hB : RB cb mb) : ∃ (r : Int32) (mv' : Int32) (cb' : (Nat → Int32)) (cm' : (Nat → Int32)) (mb' : (Nat → Int32)) (mn' : (Nat → Int32)), f_X6_step N a1 mv cb cm = some (r, mv', cb', cm') ∧ f_X7_step N a1 mv mb mn = some (r, mv', mb', mn') ∧ RB cb' mb' := by
  unfold f_X6_step f_X7_step
  rcases pu_carry N hN true a1 mv cb cm mb mn hB with ⟨r, h1, h2, rfl, z, mv', cb', cm', mb', mn', e1, e2, hR, hi⟩ | ⟨e1, e2⟩
  · refine ⟨z, mv', cb', cm', mb', mn', ?_, ?_, hR⟩
    · rw [hi, bd1_t, if_neg (by decide), show (1 : Int32) = bI true from rfl, e1, bd4_t]
    · rw [show (0 : Int32) = bI (!true) from rfl, e2, bd4_t]
  · refine ⟨-2, mv, cb, cm, mb, mn, ?_, ?_, hB⟩
    · rw [e1, bd1_t, if_pos rfl]
    · rw [show (0 : Int32) = bI (!true) from rfl, e2, bd4_t]
theorem pu_back (N : Nat) (hN : 25000 ≤ N) (a1 : Int32) (mv : Int32) (cb : (Nat → Int32)) (cm : (Nat → Int32)) (mb : (Nat → Int32)) (mn : (Nat → Int32)) (hB : RB cb mb) : ∃ (r : Int32) (mv' : Int32) (cb' : (Nat → Int32)) (cm' : (Nat → Int32)) (mb' : (Nat → Int32)) (mn' : (Nat → Int32)), f_X6_back N a1 mv cb cm = some (r, mv', cb', cm') ∧ f_X7_back N a1 mv mb mn = some (r, mv', mb', mn') ∧ RB cb' mb' := by
  unfold f_X6_back f_X7_back
  rcases pu_carry N hN false a1 mv cb cm mb mn hB with ⟨r, h1, h2, rfl, z, mv', cb', cm', mb', mn', e1, e2, hR, hi⟩ | ⟨e1, e2⟩
  · refine ⟨z, mv', cb', cm', mb', mn', ?_, ?_, hR⟩
    · rw [hi, bd1_t, if_neg (by decide), show f_X6_carry N (nI r) 0 mv cb cm = some (z, mv', cb', cm') from e1, bd4_t]
    · rw [show f_X7_goes N (nI r) 1 mv mb mn = some (z, mv', mb', mn') from e2, bd4_t]
  · refine ⟨-2, mv, cb, cm, mb, mn, ?_, ?_, hB⟩
    · rw [e1, bd1_t, if_pos rfl]
    · rw [show f_X7_goes N a1 1 mv mb mn = some (-2, mv, mb, mn) from e2, bd4_t]
/-- what a carrier takes, up to k -/
def tkc (r : Nat) (B : Nat → Bool) : Nat → Nat
  | 0 => 0
  | k + 1 => tkc r B k + if B k = true ∧ hs r B 0 k < r then 1 else 0
theorem pu_kept (N : Nat) (hN : 25000 ≤ N) (a1 : Int32) (cb : (Nat → Int32)) (mb : (Nat → Int32)) (hB : RB cb mb) : ∃ (r : Int32), f_X6_kept N a1 cb = some r ∧ f_X7_kept N a1 mb = some r := by
  unfold f_X6_kept f_X7_kept
  rcases room_or a1 with ⟨r, h1, h2, rfl, hi⟩ | hi
  · obtain ⟨B, b1, b2⟩ := hB
    refine ⟨nI (tkc r B 240), ?_, ?_⟩
    · rw [(hi N).1, bd1_t, if_neg (by decide)]
      unfold f_X3_takenBy
      obtain ⟨⟨x, y⟩, ⟨h3, -⟩, e⟩ := loop_ex (σ := Int32 × Int32) (fun n k a => L_X3_takenBy_7 N (nI r) cb (fun y6 => some y6) n a.1 a.2 (nI k)) (fun a => some a.1)
        (fun k a => a.1 = nI (tkc r B k) ∧ a.2 = nI (hs r B 0 k)) 240
        (fun n a h => by simp only [L_X3_takenBy_7, t240, ↓reduceIte])
        (fun n k a hk h => by
          obtain ⟨x, y⟩ := a
          obtain ⟨h1, h2⟩ := h
          simp only at h1 h2
          subst h1 h2
          have hh := hs_le (r := r) (B := B) (Nat.zero_le r) k
          refine ⟨(nI (tkc r B (k + 1)), nI (hs r B 0 (k + 1))), ?_, rfl, rfl⟩
          simp only [L_X3_takenBy_7, n240 hk, ↓reduceIte, inb_t hk (by decide : 240 < 2 ^ 31), ck_t, nI_clamp (show k < 2 ^ 31 by omega), b1 k hk, load_eq (B k) (show r < 1000 by omega) hh N, bd1_t, nI1, hs, tkc]
          generalize hs r B 0 k = g at hh
          by_cases c : B k = true ∧ g < r
          · have e1 : stp r (B k) g = g + 1 := by simp [stp, c.1, c.2]
            rw [if_neg (by rw [e1]; exact nI_ge (Nat.lt_succ_self g) (by omega)), if_pos c]
          · have e1 : stp r (B k) g ≤ g := by
              unfold stp
              cases hb : B k
              · simp
              · simp only [hb, true_and] at c
                simp [c]
            rw [if_pos (nI_le e1 (by omega)), if_neg c]
            try rfl)
        240 0 N (0, 0) rfl (by omega) ⟨rfl, rfl⟩
      simp only at h3 e
      have e : L_X3_takenBy_7 N (nI r) cb (fun y6 => some y6) N 0 0 0 = some (nI (tkc r B 240)) := by rw [← h3]; exact e
      rw [e, bd1_t]
    · rw [(hi N).2, bd1_t, if_neg (by decide)]
      obtain ⟨⟨x, y⟩, ⟨h3, -⟩, e⟩ := loop_ex (σ := Int32 × Int32) (fun n k a => L_X7_kept_20 N (nI r) mb (fun y14 => some y14) n a.2 a.1 (nI k)) (fun a => some a.1)
        (fun k a => a.1 = nI (tkc r B k) ∧ a.2 = nI (hs r B 0 k)) 240
        (fun n a h => by simp only [L_X7_kept_20, t240, ↓reduceIte])
        (fun n k a hk h => by
          obtain ⟨x, y⟩ := a
          obtain ⟨h1, h2⟩ := h
          simp only at h1 h2
          subst h1 h2
          have hh := hs_le (r := r) (B := B) (Nat.zero_le r) k
          refine ⟨(nI (tkc r B (k + 1)), nI (hs r B 0 (k + 1))), ?_, rfl, rfl⟩
          simp only [L_X7_kept_20, n240 hk, ↓reduceIte, inb_t hk (by decide : 240 < 2 ^ 31), ck_t, nI_clamp (show k < 2 ^ 31 by omega), b2 k hk, nI1, hs, tkc]
          generalize hs r B 0 k = g at hh
          cases hb : B k
          · simp only [bI_f, i00, ↓reduceIte, Bool.false_eq_true, false_and, Nat.add_zero]
            rcases Nat.eq_zero_or_pos g with rfl | h0
            · rw [if_pos (by decide)]
              simp [stp]
            · rw [if_neg (show ¬ nI g ≤ 0 from nI_nle h0 (by omega)), nIm1 h0]
              simp [stp]
          · simp only [bI_t, i10, ↓reduceIte, true_and]
            by_cases c : g < r
            · rw [if_neg (nI_ge c (by omega)), if_pos c]
              simp [stp, c]
            · rw [if_pos (nI_le (Nat.le_of_not_lt c) (by omega)), if_neg c]
              simp [stp, c])
        240 0 N (0, 0) rfl (by omega) ⟨rfl, rfl⟩
      simp only at h3 e
      rw [← h3]
      exact e
  · refine ⟨-2, ?_, ?_⟩
    · rw [(hi N).1, bd1_t, if_pos rfl]
    · rw [(hi N).2, bd1_t, if_pos rfl]
/-- how many balls, up to k -/
def cnt (B : Nat → Bool) : Nat → Nat
  | 0 => 0
  | k + 1 => cnt B k + if B k then 1 else 0
theorem cnt_le (B : Nat → Bool) : ∀ k, cnt B k ≤ k
  | 0 => Nat.le_refl 0
  | k + 1 => by
    have := cnt_le B k
    simp only [cnt]
    split <;> omega
theorem cballs (N : Nat) (hN : 25000 ≤ N) (cb : Nat → Int32) (B : Nat → Bool) (hB : ∀ k, k < 240 → cb k = bI (B k)) : f_X3_balls N cb = some (nI (cnt B 240)) := by
  unfold f_X3_balls
  obtain ⟨x, h3, e⟩ := loop_ex (σ := Int32) (fun n k a => L_X3_balls_4 N cb (fun y3 => some y3) n a (nI k)) (fun a => some a)
    (fun k a => a = nI (cnt B k)) 240
    (fun n a h => by simp only [L_X3_balls_4, t240, ↓reduceIte])
    (fun n k a hk h => by
      subst h
      refine ⟨nI (cnt B (k + 1)), ?_, rfl⟩
      simp only [L_X3_balls_4, n240 hk, ↓reduceIte, inb_t hk (by decide : 240 < 2 ^ 31), ck_t, nI_clamp (show k < 2 ^ 31 by omega), hB k hk, nI1, cnt]
      cases B k
      · simp [bI_f]
      · simp [bI_t, nI1])
    240 0 N 0 rfl (by omega) rfl
  rw [← h3]
  exact e
theorem mballs (N : Nat) (hN : 25000 ≤ N) (mb : Nat → Int32) (B : Nat → Bool) (hB : ∀ k, k < 240 → mb k = bI (B k)) : f_X7_balls N mb = some (nI (cnt B 240)) := by
  unfold f_X7_balls
  obtain ⟨x, h3, e⟩ := loop_ex (σ := Int32) (fun n k a => L_X7_balls_4 N mb (fun y4 => some y4) n a (nI k)) (fun a => some a)
    (fun k a => a = nI (cnt B k)) 240
    (fun n a h => by simp only [L_X7_balls_4, t240, ↓reduceIte])
    (fun n k a hk h => by
      subst h
      refine ⟨nI (cnt B (k + 1)), ?_, rfl⟩
      simp only [L_X7_balls_4, n240 hk, ↓reduceIte, inb_t hk (by decide : 240 < 2 ^ 31), ck_t, nI_clamp (show k < 2 ^ 31 by omega), hB k hk, nI1, cnt]
      cases B k
      · simp [bI_f]
      · simp [bI_t, nI1, i10])
    240 0 N 0 rfl (by omega) rfl
  rw [← h3]
  exact e
theorem pu_empty (N : Nat) (hN : 25000 ≤ N) (cb : (Nat → Int32)) (mb : (Nat → Int32)) (hB : RB cb mb) : ∃ (r : Int32) (cb' : (Nat → Int32)) (mb' : (Nat → Int32)), f_X6_empty N cb = some (r, cb') ∧ f_X7_empty N mb = some (r, mb') ∧ RB cb' mb' := by
  obtain ⟨B, b1, b2⟩ := hB
  obtain ⟨c', h3, e3⟩ := loop_ex (σ := Nat → Int32) (fun n k a => L_X3_clear_2 N (fun u3 => some u3) n (nI k) a) (fun a => some a)
    (fun k a => ∀ j, j < k → a j = 0) 240
    (fun n a h => by simp only [L_X3_clear_2, t240, ↓reduceIte])
    (fun n k a hk h => by
      refine ⟨upd a k 0, ?_, fun j hj => ?_⟩
      · simp only [L_X3_clear_2, n240 hk, ↓reduceIte, inb_t hk (by decide : 240 < 2 ^ 31), ck_t, nI_clamp (show k < 2 ^ 31 by omega), nI1]
      · by_cases ej : j = k
        · subst ej; exact upd_s
        · rw [upd_n ej]; exact h j (by omega))
    240 0 N cb rfl (by omega) (fun j hj => by omega)
  obtain ⟨d', h4, e4⟩ := loop_ex (σ := Nat → Int32) (fun n k a => L_X7_empty_7 N (fun u5 => some (nI (cnt B 240), u5)) n (nI k) a) (fun a => some (nI (cnt B 240), a))
    (fun k a => ∀ j, j < k → a j = 0) 240
    (fun n a h => by simp only [L_X7_empty_7, t240, ↓reduceIte])
    (fun n k a hk h => by
      refine ⟨upd a k 0, ?_, fun j hj => ?_⟩
      · simp only [L_X7_empty_7, n240 hk, ↓reduceIte, inb_t hk (by decide : 240 < 2 ^ 31), ck_t, nI_clamp (show k < 2 ^ 31 by omega), nI1, nar_0]
      · by_cases ej : j = k
        · subst ej; exact upd_s
        · rw [upd_n ej]; exact h j (by omega))
    240 0 N mb rfl (by omega) (fun j hj => by omega)
  refine ⟨nI (cnt B 240), c', d', ?_, ?_, ⟨fun _ => false, h3, h4⟩⟩
  · unfold f_X6_empty f_X3_clear
    rw [cballs N hN cb B b1, bd1_t, show L_X3_clear_2 N (fun u3 => some u3) N 0 cb = some c' from e3, bd1_t]
  · unfold f_X7_empty
    rw [mballs N hN mb B b2, bd1_t]
    exact e4
