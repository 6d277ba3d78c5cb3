/-! plain rows: loops, conditions -/
theorem loop_ex {σ β : Type} (F : Nat → Nat → σ → Option β) (G : σ → Option β) (I : Nat → σ → Prop) (E : Nat)
    (hx : ∀ n a, I E a → F (n + 1) E a = G a)
    (hs : ∀ n k a, k < E → I k a → ∃ a', F (n + 1) k a = F n (k + 1) a' ∧ I (k + 1) a') :
    ∀ (j k n : Nat) (a : σ), k + j = E → j < n → I k a → ∃ a', I E a' ∧ F n k a = G a' := by
  intro j
  induction j with
  | zero =>
    intro k n a hk hn h
    obtain rfl : k = E := by omega
    obtain ⟨n, rfl⟩ : ∃ z, n = z + 1 := ⟨n - 1, by omega⟩
    exact ⟨a, h, hx n a h⟩
  | succ j ih =>
    intro k n a hk hn h
    obtain ⟨n, rfl⟩ : ∃ z, n = z + 1 := ⟨n - 1, by omega⟩
    obtain ⟨a', e, h'⟩ := hs n k a (by omega) h
    obtain ⟨a2, h2, e2⟩ := ih (k + 1) n a' (by omega) (by omega) h'
    exact ⟨a2, h2, e.trans e2⟩
/-- a loop that may end early: a measure that falls -/
theorem loop_me {σ β : Type} (F : Nat → σ → Option β) (I : σ → Prop) (μ : σ → Nat) (Z : Option β → Prop)
    (hs : ∀ n a, I a → (Z (F (n + 1) a)) ∨ ∃ a', F (n + 1) a = F n a' ∧ I a' ∧ μ a' < μ a) :
    ∀ (j n : Nat) (a : σ), μ a < j → j ≤ n → I a → Z (F n a) := by
  intro j
  induction j with
  | zero => intro n a h; omega
  | succ j ih =>
    intro n a hj hn h
    obtain ⟨n, rfl⟩ : ∃ z, n = z + 1 := ⟨n - 1, by omega⟩
    rcases hs n a h with h1 | ⟨a', e, h', hm⟩
    · exact h1
    · rw [e]
      exact ih n a' (by omega) (by omega) h'
theorem ck_t {α : Type} (r : Option α) : ck true r = r := rfl
theorem inb_t {k n : Nat} (h : k < n) (hn : n < 2 ^ 31) : inb (nI k) n = true := decide_eq_true (nI_in h hn)
theorem bd1_t {α β : Type} (a : α) (k : α → Option β) : bd1 (some a) k = k a := rfl
theorem bd2_t {α β γ : Type} (a : α) (b : β) (k : α → β → Option γ) : bd2 (some (a, b)) k = k a b := rfl
theorem bd3_t {α β γ δ : Type} (a : α) (b : β) (c : γ) (k : α → β → γ → Option δ) : bd3 (some (a, b, c)) k = k a b c := rfl
theorem bd4_t {α β γ δ ε : Type} (a : α) (b : β) (c : γ) (d : δ) (k : α → β → γ → δ → Option ε) : bd4 (some (a, b, c, d)) k = k a b c d := rfl
theorem bd5_t {α β γ δ ε ζ : Type} (a : α) (b : β) (c : γ) (d : δ) (e : ε) (k : α → β → γ → δ → ε → Option ζ) : bd5 (some (a, b, c, d, e)) k = k a b c d e := rfl
theorem bd6_t {α β γ δ ε ζ η : Type} (a : α) (b : β) (c : γ) (d : δ) (e : ε) (f : ζ) (k : α → β → γ → δ → ε → ζ → Option η) : bd6 (some (a, b, c, d, e, f)) k = k a b c d e f := rfl
theorem bI_t : bI true = 1 := rfl
theorem bI_f : bI false = 0 := rfl
theorem nar_b (x : Bool) : vp_nar .boolean (bI x) = bI x := by cases x <;> rfl
theorem nar_0 : vp_nar .boolean 0 = 0 := rfl
theorem nar_1 : vp_nar .boolean 1 = 1 := rfl
theorem i10 : ((1 : Int32) = 0) = False := eq_false (by decide)
theorem i01 : ((0 : Int32) = 1) = False := eq_false (by decide)
theorem i00 : ((0 : Int32) = 0) = True := eq_true rfl
theorem i11 : ((1 : Int32) = 1) = True := eq_true rfl
theorem upd_s {f : Nat → Int32} {k : Nat} {x : Int32} : upd f k x k = x := pk_us
theorem upd_n {f : Nat → Int32} {k j : Nat} {x : Int32} (h : j ≠ k) : upd f k x j = f j := pk_un h
theorem nle {m k : Nat} (h : k < m) (hm : m < 2 ^ 31) : (nI m ≤ nI k) = False := eq_false (nI_ge h hm)
theorem tle {m k : Nat} (h : m ≤ k) (hm : k < 2 ^ 31) : (nI m ≤ nI k) = True := eq_true (nI_le h hm)
theorem n240 {k : Nat} (h : k < 240) : ((240 : Int32) ≤ nI k) = False := eq_false (nI_ge (b := 240) h (by decide))
theorem t240 : ((240 : Int32) ≤ nI 240) = True := eq_true (by decide)
theorem nI1 (k : Nat) : nI k + (1 : Int32) = nI (k + 1) := nI_1 k
/-- an int is a box, or none -/
theorem box_or (x : Int32) : (∃ k, k < 240 ∧ x = nI k) ∨ (∀ N, f_X6_isBox N x = some 0 ∧ f_X7_in N x 0 239 = some 0) := by
  rcases pk_ix x (n := 240) (by decide) with h | h | ⟨j, hj, rfl⟩
  · refine Or.inr (fun N => ⟨?_, ?_⟩)
    · unfold f_X6_isBox; rw [if_pos h]
    · unfold f_X7_in; rw [if_pos h]
  · have h : (240 : Int32) ≤ x := h
    refine Or.inr (fun N => ⟨?_, ?_⟩)
    · unfold f_X6_isBox
      split
      · rfl
      · first | rfl | rw [if_pos h]
    · unfold f_X7_in
      split
      · rfl
      · rw [if_pos]
        have e1 : (240 : Int32).toInt = 240 := by decide
        have e2 : (239 : Int32).toInt = 239 := by decide
        rw [Int32.lt_iff_toInt_lt]
        rw [Int32.le_iff_toInt_le] at h
        omega
  · exact Or.inl ⟨j, hj, rfl⟩
theorem isBox_in {k : Nat} (h : k < 240) (N : Nat) : f_X6_isBox N (nI k) = some 1 := by
  unfold f_X6_isBox
  rw [if_neg (nI_pos (by omega)), if_neg (show ¬ (240 : Int32) ≤ nI k from nI_ge (b := 240) h (by decide))]
theorem in_box {k : Nat} (h : k < 240) (N : Nat) : f_X7_in N (nI k) 0 239 = some 1 := by
  unfold f_X7_in
  rw [if_neg (nI_pos (by omega)), if_neg (show ¬ (239 : Int32) < nI k from nI_nlt (a := 239) (b := k) (by omega) (by decide))]
theorem ballAt_in {k : Nat} (h : k < 240) (N : Nat) (bx : Nat → Int32) : f_X3_ballAt N (nI k) bx = some (bx k) := by
  unfold f_X3_ballAt
  rw [isBox_in h, bd1_t, if_neg (by decide), inb_t h (by decide), ck_t, nI_clamp (by omega)]
theorem place_in {k : Nat} (h : k < 240) (N : Nat) (v : Int32) (bx : Nat → Int32) : f_X3_place N (nI k) v bx = some (upd bx k v) := by
  unfold f_X3_place
  rw [isBox_in h, bd1_t, if_neg (by decide), inb_t h (by decide), ck_t, nI_clamp (by omega)]
theorem makeBox_in {k : Nat} (h : k < 240) (N : Nat) (v : Int32) (bx : Nat → Int32) : f_X3_makeBox N (nI k) v bx = some (upd bx k v) := by
  unfold f_X3_makeBox
  rw [isBox_in h, bd1_t, if_neg (by decide), inb_t h (by decide), ck_t, nI_clamp (by omega)]
/-- an int is a room, or none -/
theorem room_or (x : Int32) : (∃ r, 1 ≤ r ∧ r ≤ 50 ∧ x = nI r ∧ ∀ N, f_X6_isRoom N x = some 1 ∧ f_X7_in N x 1 50 = some 1) ∨ (∀ N, f_X6_isRoom N x = some 0 ∧ f_X7_in N x 1 50 = some 0) := by
  by_cases h1 : x < 1
  · refine Or.inr (fun N => ⟨?_, ?_⟩)
    · unfold f_X6_isRoom; rw [if_pos h1]
    · unfold f_X7_in; rw [if_pos h1]
  · by_cases h2 : (50 : Int32) < x
    · refine Or.inr (fun N => ⟨?_, ?_⟩)
      · unfold f_X6_isRoom; rw [if_neg h1, if_pos h2]
      · unfold f_X7_in; rw [if_neg h1, if_pos h2]
    · have e1 : (1 : Int32).toInt = 1 := by decide
      have e2 : (50 : Int32).toInt = 50 := by decide
      have h3 := h1
      have h4 := h2
      rw [Int32.lt_iff_toInt_lt] at h3 h4
      refine Or.inl ⟨x.toInt.toNat, by omega, by omega, ?_, fun N => ⟨?_, ?_⟩⟩
      · apply Int32.toInt_inj.mp
        rw [nI_toInt (by omega)]
        omega
      · unfold f_X6_isRoom; rw [if_neg h1, if_neg h2]
      · unfold f_X7_in; rw [if_neg h1, if_neg h2]
theorem pu_at (N : Nat) (hN : 25000 ≤ N) (a1 : Int32) (cb : (Nat → Int32)) (mb : (Nat → Int32)) (hB : RB cb mb) : ∃ (r : Int32), f_X6_at N a1 cb = some r ∧ f_X7_at N a1 mb = some r := by
  obtain ⟨B, h1, h2⟩ := hB
  rcases box_or a1 with ⟨k, hk, rfl⟩ | h
  · refine ⟨bI (B k), ?_, ?_⟩
    · unfold f_X6_at
      rw [isBox_in hk, bd1_t, if_neg (by decide), ballAt_in hk, bd1_t, h1 k hk]
    · unfold f_X7_at
      rw [in_box hk, bd1_t, if_neg (by decide), inb_t hk (by decide), ck_t, nI_clamp (by omega), h2 k hk]
      cases B k <;> rfl
  · refine ⟨-2, ?_, ?_⟩
    · unfold f_X6_at
      rw [(h N).1, bd1_t, if_pos rfl]
    · unfold f_X7_at
      rw [(h N).2, bd1_t, if_pos rfl]
theorem pu_set (N : Nat) (hN : 25000 ≤ N) (a1 a2 : Int32) (cb : (Nat → Int32)) (mb : (Nat → Int32)) (h2 : a2 = 0 ∨ a2 = 1) (hB : RB cb mb) : ∃ (r : Int32) (cb' : (Nat → Int32)) (mb' : (Nat → Int32)), f_X6_set N a1 a2 cb = some (r, cb') ∧ f_X7_set N a1 a2 mb = some (r, mb') ∧ RB cb' mb' := by
  obtain ⟨B, h3, h4⟩ := id hB
  rcases box_or a1 with ⟨k, hk, rfl⟩ | h
  · obtain ⟨v, rfl⟩ : ∃ v : Bool, a2 = bI v := by
      rcases h2 with rfl | rfl
      · exact ⟨false, rfl⟩
      · exact ⟨true, rfl⟩
    have hm : f_X7_set N (nI k) (bI v) mb = some (if B k = v then 0 else 1, upd mb k (bI v)) := by
      unfold f_X7_set
      rw [in_box hk, bd1_t, if_neg (by decide), inb_t hk (by decide), ck_t, ck_t, ck_t, nI_clamp (by omega), h4 k hk, nar_b]
      cases B k <;> cases v <;> rfl
    have hR : ∀ c : Nat → Int32, (∀ j, j < 240 → c j = if j = k then bI v else cb j) → RB c (upd mb k (bI v)) := by
      intro c hc
      refine ⟨fun j => if j = k then v else B j, fun j hj => ?_, fun j hj => ?_⟩
      · rw [hc j hj]
        by_cases e : j = k
        · simp [e]
        · simp [e, h3 j hj]
      · by_cases e : j = k
        · subst e; rw [upd_s]; simp
        · rw [upd_n e]; simp [e, h4 j hj]
    by_cases e : B k = v
    · refine ⟨0, cb, upd mb k (bI v), ?_, by rw [hm, if_pos e], hR cb (fun j hj => ?_)⟩
      · unfold f_X6_set
        rw [isBox_in hk, bd1_t, if_neg (by decide), ballAt_in hk, bd1_t, bd1_t, h3 k hk, e]
        cases v <;> rfl
      · by_cases ej : j = k
        · subst ej; rw [if_pos rfl, h3 j hj, e]
        · rw [if_neg ej]
    · refine ⟨1, upd cb k (bI v), upd mb k (bI v), ?_, by rw [hm, if_neg e], hR _ (fun j hj => ?_)⟩
      · unfold f_X6_set
        rw [isBox_in hk, bd1_t, if_neg (by decide), ballAt_in hk, bd1_t, bd1_t, h3 k hk, place_in hk, place_in hk, bd1_t, bd1_t]
        cases hb : B k <;> cases v <;> first | (rw [hb] at e; exact absurd rfl e) | rfl
      · by_cases ej : j = k
        · subst ej; rw [upd_s, if_pos rfl]
        · rw [upd_n ej, if_neg ej]
  · refine ⟨-2, cb, mb, ?_, ?_, hB⟩
    · unfold f_X6_set
      rw [(h N).1, bd1_t, if_pos rfl]
    · unfold f_X7_set
      rw [(h N).2, bd1_t, if_pos rfl]
