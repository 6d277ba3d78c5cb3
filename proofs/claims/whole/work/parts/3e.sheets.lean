/-! sheets -/
theorem i1n0 : ¬ (1 : Int32) = 0 := by decide
theorem vu_s {α : Type} {f : Nat → α} {k : Nat} {v : α} : va_up f k v k = v := if_pos rfl
theorem vu_n {α : Type} {f : Nat → α} {k j : Nat} {v : α} (h : j ≠ k) : va_up f k v j = f j := if_neg h
theorem vu_same {α : Type} (f : Nat → α) (k : Nat) : va_up f k (f k) = f := by
  funext j
  by_cases c : j = k
  · rw [c, vu_s]
  · rw [vu_n c]
theorem RH_up {sl sf ss : Nat → Int32} {si : Nat → Nat → Int32} {hT hF hS hI : Nat → Int32} (h : RH sl sf ss si hT hF hS hI) (i : Nat) {l' f' z' : Int32} {it' : Nat → Int32} {hT' hF' hS' hI' : Nat → Int32}
    (h1 : ∃ t : Bool, l' = bI (!t) ∧ hT' i = bI t) (h2 : f' = hF' i) (h3 : ∃ z : Nat, z ≤ 100 ∧ z' = nI z ∧ hS' i = nI z) (h4 : ∀ k, k < 100 → it' k = hI' (100 * i + k))
    (o1 : ∀ j, j ≠ i → hT' j = hT j) (o2 : ∀ j, j ≠ i → hF' j = hF j) (o3 : ∀ j, j ≠ i → hS' j = hS j) (o4 : ∀ j, j ≠ i → ∀ k, k < 100 → hI' (100 * j + k) = hI (100 * j + k)) :
    RH (va_up sl i l') (va_up sf i f') (va_up ss i z') (va_up si i it') hT' hF' hS' hI' := by
  intro j hj
  by_cases c : j = i
  · subst c
    rw [vu_s, vu_s, vu_s, vu_s]
    exact ⟨h1, h2, h3, h4⟩
  · rw [vu_n c, vu_n c, vu_n c, vu_n c]
    obtain ⟨⟨t, q1, q2⟩, q3, ⟨z, q4, q5, q6⟩, q7⟩ := h j hj
    exact ⟨⟨t, q1, by rw [o1 j c, q2]⟩, by rw [o2 j c, q3], ⟨z, q4, q5, by rw [o3 j c, q6]⟩, fun k hk => by rw [o4 j c k hk, q7 k hk]⟩
/-- only the items change -/
theorem RH_it {sl sf ss : Nat → Int32} {si : Nat → Nat → Int32} {hT hF hS hI : Nat → Int32} (h : RH sl sf ss si hT hF hS hI) {i : Nat} (hi : i < 4) {it' hI' : Nat → Int32}
    (h4 : ∀ k, k < 100 → it' k = hI' (100 * i + k)) (o4 : ∀ j, j ≠ i → ∀ k, k < 100 → hI' (100 * j + k) = hI (100 * j + k)) : RH sl sf ss (va_up si i it') hT hF hS hI' := by
  obtain ⟨q1, q2, q3, q4⟩ := h i hi
  have := RH_up h i q1 q2 q3 h4 (fun _ _ => rfl) (fun _ _ => rfl) (fun _ _ => rfl) o4
  rw [vu_same, vu_same, vu_same] at this
  exact this
theorem sheet_or (a : Int32) : (∃ i, i < 4 ∧ a = nI i) ∨ ((∀ N, f_X7_isSheet N a = some 0) ∧ ∀ g, shOf a g = none) := by
  rcases pk_ix a (n := 4) (by decide) with h | h | ⟨j, hj, rfl⟩
  · refine Or.inr ⟨fun N => ?_, fun g => ?_⟩
    · unfold f_X7_isSheet f_X7_in; rw [if_pos h, bd1_t]
    · unfold shOf; rw [if_pos h]
  · have h : (4 : Int32) ≤ a := h
    have h0 : ¬ a < 0 := fun c => by
      rw [Int32.lt_iff_toInt_lt] at c
      rw [Int32.le_iff_toInt_le] at h
      have e1 : (0 : Int32).toInt = 0 := by decide
      have e2 : (4 : Int32).toInt = 4 := by decide
      omega
    refine Or.inr ⟨fun N => ?_, fun g => ?_⟩
    · unfold f_X7_isSheet f_X7_in
      rw [if_neg h0, if_pos, bd1_t]
      rw [Int32.lt_iff_toInt_lt]
      rw [Int32.le_iff_toInt_le] at h
      have e1 : (3 : Int32).toInt = 3 := by decide
      have e2 : (4 : Int32).toInt = 4 := by decide
      omega
    · unfold shOf; rw [if_neg h0, if_pos h]
  · exact Or.inl ⟨j, hj, rfl⟩
theorem isSheet_in {i : Nat} (h : i < 4) (N : Nat) : f_X7_isSheet N (nI i) = some 1 := by
  unfold f_X7_isSheet f_X7_in
  rw [if_neg (nI_pos (by omega)), if_neg (show ¬ (3 : Int32) < nI i from nI_nlt (a := 3) (b := i) (by omega) (by decide)), bd1_t]
theorem shOf_in {i : Nat} (h : i < 4) (g : Nat → Option Nat) : shOf (nI i) g = g i := by
  unfold shOf
  rw [if_neg (nI_pos (by omega)), if_neg (show ¬ (4 : Int32) ≤ nI i from nI_ge (b := 4) h (by decide)), nI_clamp (by omega)]
theorem n4 {i : Nat} (h : i < 4) : inb (nI i) 4 = true := inb_t h (by decide)
theorem n100 {i : Nat} (h : i < 100) : inb (nI i) 100 = true := inb_t h (by decide)
theorem n400 {i : Nat} (h : i < 400) : inb (nI i) 400 = true := inb_t h (by decide)
theorem at100 (i k : Nat) : (100 : Int32) * nI i + nI k = nI (100 * i + k) := by
  rw [show (100 : Int32) = nI 100 from rfl, pk_mul, nI_add]
theorem form_or (a : Int32) : (∀ N, f_X6_isForm N a = some 1 ∧ f_X7_in N a 0 2 = some 1) ∨ (∀ N, f_X6_isForm N a = some 0 ∧ f_X7_in N a 0 2 = some 0) := by
  unfold f_X6_isForm f_X7_in
  by_cases c : a < 0
  · exact Or.inr (fun N => ⟨by rw [if_pos c], by rw [if_pos c]⟩)
  · have e1 : (3 : Int32).toInt = 3 := by decide
    have e2 : (2 : Int32).toInt = 2 := by decide
    by_cases c2 : (3 : Int32) ≤ a
    · have c3 : (2 : Int32) < a := by
        rw [Int32.lt_iff_toInt_lt]
        rw [Int32.le_iff_toInt_le] at c2
        omega
      exact Or.inr (fun N => ⟨by rw [if_neg c, if_pos c2], by rw [if_neg c, if_pos c3]⟩)
    · have c3 : ¬ (2 : Int32) < a := by
        rw [Int32.lt_iff_toInt_lt]
        rw [Int32.le_iff_toInt_le] at c2
        omega
      exact Or.inl (fun N => ⟨by rw [if_neg c, if_neg c2], by rw [if_neg c, if_neg c3]⟩)
theorem find_eq (N : Nat) (k lf : Int32) : f_X6_find N k lf = some (-10 - k, k) := rfl
theorem meets_eq (N : Nat) (k lf : Int32) : f_X7_meets N k lf = some (-10 - k, k) := rfl
/-- an item of a sheet, or none -/
theorem item_or {z : Nat} (hz : z ≤ 100) (a : Int32) : (∃ k, k < z ∧ a = nI k ∧ ∀ N, f_X4_isItem N a (nI z) = some 1 ∧ f_X7_in N a 0 (nI z - 1) = some 1) ∨ (∀ N, f_X4_isItem N a (nI z) = some 0 ∧ f_X7_in N a 0 (nI z - 1) = some 0) := by
  have ez : (nI z - 1).toInt = (z : Int) - 1 := pk_sub_toInt (a := z) (b := 1) (by omega) (by omega)
  rcases pk_ix a (n := z) (by omega) with h | h | ⟨k, hk, rfl⟩
  · refine Or.inr (fun N => ⟨?_, ?_⟩)
    · unfold f_X4_isItem; rw [if_pos h]
    · unfold f_X7_in; rw [if_pos h]
  · have h0 : ¬ a < 0 := fun c => by
      rw [Int32.lt_iff_toInt_lt] at c
      rw [Int32.le_iff_toInt_le, nI_toInt (by omega)] at h
      have e1 : (0 : Int32).toInt = 0 := by decide
      omega
    refine Or.inr (fun N => ⟨?_, ?_⟩)
    · unfold f_X4_isItem; rw [if_neg h0, if_pos h]
    · unfold f_X7_in
      rw [if_neg h0, if_pos]
      rw [Int32.lt_iff_toInt_lt, ez]
      rw [Int32.le_iff_toInt_le, nI_toInt (by omega)] at h
      omega
  · refine Or.inl ⟨k, hk, rfl, fun N => ⟨?_, ?_⟩⟩
    · unfold f_X4_isItem
      rw [if_neg (nI_pos (by omega)), if_neg (nI_ge hk (by omega)), if_neg (show ¬ (100 : Int32) ≤ nI k from nI_ge (b := 100) (by omega) (by decide))]
    · unfold f_X7_in
      rw [if_neg (nI_pos (by omega)), if_neg]
      rw [Int32.lt_iff_toInt_lt, ez, nI_toInt (by omega)]
      omega
theorem itemAt_in {z k : Nat} (hz : z ≤ 100) (hk : k < z) (N : Nat) (it : Nat → Int32) : f_X4_itemAt N (nI k) (nI z) it = some (it k) := by
  unfold f_X4_itemAt f_X4_isItem
  rw [if_neg (nI_pos (by omega)), if_neg (nI_ge hk (by omega)), if_neg (show ¬ (100 : Int32) ≤ nI k from nI_ge (b := 100) (by omega) (by decide)), bd1_t, if_neg i1n0, n100 (by omega), ck_t, nI_clamp (by omega)]
def cutv (f v : Int32) : Int32 := if f = 0 then v.toInt8.toInt32 else if f = 1 then v.toInt16.toInt32 else v
theorem splace_in {z k : Nat} (hz : z ≤ 100) (hk : k < z) (N : Nat) (v f : Int32) (it : Nat → Int32) : f_X4_place N (nI k) v f (nI z) it = some (upd it k (cutv f v)) := by
  unfold f_X4_place f_X4_isItem f_X4_cut
  rw [if_neg (nI_pos (by omega)), if_neg (nI_ge hk (by omega)), if_neg (show ¬ (100 : Int32) ≤ nI k from nI_ge (b := 100) (by omega) (by decide)), bd1_t, if_neg i1n0]
  unfold cutv
  split
  · rw [bd1_t, n100 (by omega), ck_t, nI_clamp (by omega)]
  · split
    · rw [bd1_t, n100 (by omega), ck_t, nI_clamp (by omega)]
    · rw [bd1_t, n100 (by omega), ck_t, nI_clamp (by omega)]
theorem finding (N : Nat) {i : Nat} (hi : i < 4) (a2 a3 : Int32) {sl sf ss : Nat → Int32} {si : Nat → Nat → Int32} {hT hF hS hI : Nat → Int32} (hH : RH sl sf ss si hT hF hS hI) :
    ∃ v : Int32, f_X4_findingAt N a2 a3 (sl i) (sf i) (ss i) = some v ∧ f_X7_lacks N (nI i) a2 a3 hT hF hS = some v ∧ ((v = 0 ∧ sf i = a2 ∧ ∃ k z, k < z ∧ z ≤ 100 ∧ a3 = nI k ∧ ss i = nI z) ∨ (¬ v = 0 ∧ ¬ v ≤ 0)) := by
  obtain ⟨⟨t, q1, q2⟩, q3, ⟨z, q4, q5, q6⟩, q7⟩ := hH i hi
  unfold f_X4_findingAt f_X7_lacks
  cases t
  · simp only [Bool.not_true, Bool.not_false, bI_t, bI_f] at q1 q2
    simp only [n4 hi, ck_t, nI_clamp (show i < 2 ^ 31 by omega), q1, q2, i00, i10, ↓reduceIte]
    exact ⟨1, rfl, rfl, Or.inr ⟨by decide, by decide⟩⟩
  · simp only [Bool.not_true, Bool.not_false, bI_t, bI_f] at q1 q2
    simp only [n4 hi, ck_t, nI_clamp (show i < 2 ^ 31 by omega), q1, q2, i00, i10, ↓reduceIte, q5, q6, ← q3]
    by_cases c : sf i = a2
    · rw [if_pos c, if_pos c]
      rcases item_or q4 a3 with ⟨k, hk, rfl, h⟩ | h
      · exact ⟨0, by rw [(h N).1, bd1_t, if_neg i1n0], by rw [(h N).2, bd1_t, if_neg i1n0], Or.inl ⟨rfl, c, k, z, hk, q4, rfl, rfl⟩⟩
      · exact ⟨2, by rw [(h N).1, bd1_t, if_pos rfl], by rw [(h N).2, bd1_t, if_pos rfl], Or.inr ⟨by decide, by decide⟩⟩
    · rw [if_neg c, if_neg c]
      exact ⟨3, rfl, rfl, Or.inr ⟨by decide, by decide⟩⟩
theorem pu_put (N : Nat) {i : Nat} (hi : i < 4) (a2 a3 a4 lf : Int32) (g : Nat → Option Nat) (sl sf ss : Nat → Int32) (si : Nat → Nat → Int32) (hT hF hS hI : Nat → Int32) (hH : RH sl sf ss si hT hF hS hI) :
    ∃ (r lf' : Int32) (it' hI' : Nat → Int32), f_X6_put_S N (nI i) a2 a3 a4 lf g (sl i) (sf i) (ss i) (si i) = some (r, lf', it') ∧ f_X7_put N (nI i) a2 a3 a4 lf hT hF hS hI = some (r, lf', hI') ∧ RH sl sf ss (va_up si i it') hT hF hS hI' := by
  unfold f_X6_put_S f_X7_put
  rw [isSheet_in hi, bd1_t, if_neg i1n0]
  rcases form_or a2 with h | h
  · rw [(h N).1, (h N).2, bd1_t, bd1_t, if_neg i1n0, if_neg i1n0]
    obtain ⟨v, e1, e2, h3⟩ := finding N hi a2 a3 hH
    rw [e1, e2, bd1_t, bd1_t]
    rcases h3 with ⟨rfl, hf, k, z, hk, hz, rfl, hs⟩ | ⟨n1, n2⟩
    · rw [if_pos rfl, if_pos (by decide), hf, hs, splace_in hz hk, bd1_t, at100, n400 (by omega)]
      simp only [ck_t, nI_clamp (show 100 * i + k < 2 ^ 31 by omega)]
      refine ⟨1, lf, upd (si i) k (cutv a2 a4), upd hI (100 * i + k) (cutv a2 a4), rfl, ?_, RH_it hH hi (fun j hj => ?_) (fun j hj m hm => ?_)⟩
      · unfold cutv
        split
        · rfl
        · split
          · rfl
          · rfl
      · by_cases c : j = k
        · rw [c, upd_s, upd_s]
        · rw [upd_n c, upd_n (by omega)]
          exact (hH i hi).2.2.2 j hj
      · rw [upd_n (by omega)]
    · rw [if_neg n1, if_neg n2, find_eq, meets_eq, bd2_t, bd2_t]
      exact ⟨_, _, si i, hI, rfl, rfl, by rw [vu_same]; exact hH⟩
  · rw [(h N).1, (h N).2, bd1_t, bd1_t, if_pos rfl, if_pos rfl]
    exact ⟨-2, lf, si i, hI, rfl, rfl, by rw [vu_same]; exact hH⟩
theorem pu_get (N : Nat) {i : Nat} (hi : i < 4) (a2 a3 lf : Int32) (g : Nat → Option Nat) (sl sf ss : Nat → Int32) (si : Nat → Nat → Int32) (hT hF hS hI : Nat → Int32) (hH : RH sl sf ss si hT hF hS hI) :
    ∃ (r lf' : Int32), f_X6_get_S N (nI i) a2 a3 lf g (sl i) (sf i) (ss i) (si i) = some (r, lf') ∧ f_X7_get N (nI i) a2 a3 lf hT hF hS hI = some (r, lf') := by
  unfold f_X6_get_S f_X7_get
  rw [isSheet_in hi, bd1_t, if_neg i1n0]
  rcases form_or a2 with h | h
  · rw [(h N).1, (h N).2, bd1_t, bd1_t, if_neg i1n0, if_neg i1n0]
    obtain ⟨v, e1, e2, h3⟩ := finding N hi a2 a3 hH
    rw [e1, e2, bd1_t, bd1_t]
    rcases h3 with ⟨rfl, hf, k, z, hk, hz, rfl, hs⟩ | ⟨n1, n2⟩
    · rw [if_pos rfl, if_pos (by decide), hs, itemAt_in hz hk, bd1_t, at100, n400 (by omega), ck_t, nI_clamp (by omega), (hH i hi).2.2.2 k (by omega)]
      exact ⟨_, _, rfl, rfl⟩
    · rw [if_neg n1, if_neg n2, find_eq, bd2_t]
      exact ⟨_, _, rfl, rfl⟩
  · rw [(h N).1, (h N).2, bd1_t, bd1_t, if_pos rfl, if_pos rfl]
    exact ⟨_, _, rfl, rfl⟩
theorem pu_lose (N : Nat) {i : Nat} (hi : i < 4) (lf : Int32) (g : Nat → Option Nat) (sl sf ss : Nat → Int32) (si : Nat → Nat → Int32) (hT hF hS hI : Nat → Int32) (hH : RH sl sf ss si hT hF hS hI) :
    ∃ (r lf' l' : Int32) (hT' : Nat → Int32), f_X6_lose_S N (nI i) lf g (sl i) (ss i) = some (r, lf', l') ∧ f_X7_lose N (nI i) lf hT hS = some (r, lf', hT') ∧ RH (va_up sl i l') sf ss si hT' hF hS hI := by
  obtain ⟨⟨t, q1, q2⟩, q3, ⟨z, q4, q5, q6⟩, q7⟩ := hH i hi
  unfold f_X6_lose_S f_X7_lose
  rw [isSheet_in hi, bd1_t, if_neg i1n0]
  cases t
  · simp only [Bool.not_true, Bool.not_false, bI_t, bI_f] at q1 q2
    simp only [n4 hi, ck_t, nI_clamp (show i < 2 ^ 31 by omega), q1, q2, i00, i10, ↓reduceIte, find_eq, meets_eq, bd2_t]
    exact ⟨_, _, sl i, hT, by rw [q1], rfl, by rw [vu_same]; exact hH⟩
  · simp only [Bool.not_true, Bool.not_false, bI_t, bI_f] at q1 q2
    simp only [n4 hi, ck_t, nI_clamp (show i < 2 ^ 31 by omega), q1, q2, i00, i10, ↓reduceIte, q5, q6, nar_0]
    refine ⟨nI z, lf, 1, upd hT i 0, rfl, rfl, ?_⟩
    have := RH_up hH i (l' := 1) (f' := sf i) (z' := ss i) (it' := si i) (hT' := upd hT i 0) (hF' := hF) (hS' := hS) (hI' := hI) ⟨false, rfl, upd_s⟩ q3 ⟨z, q4, q5, q6⟩ q7 (fun j c => upd_n c) (fun _ _ => rfl) (fun _ _ => rfl) (fun _ _ _ _ => rfl)
    rw [vu_same, vu_same, vu_same] at this
    exact this
theorem n100' {k : Nat} (h : k < 100) : ((100 : Int32) ≤ nI k) = False := eq_false (nI_ge (b := 100) h (by decide))
theorem t100' : ((100 : Int32) ≤ nI 100) = True := eq_true (by decide)
theorem pu_sheet (N : Nat) (hN : 25000 ≤ N) {i : Nat} (hi : i < 4) (a2 a3 lf : Int32) (g : Nat → Option Nat) (sl sf ss : Nat → Int32) (si : Nat → Nat → Int32) (hT hF hS hI : Nat → Int32) (hH : RH sl sf ss si hT hF hS hI) :
    ∃ (r lf' l' f' z' : Int32) (it' hT' hF' hS' hI' : Nat → Int32), f_X6_sheet_S N (nI i) a2 a3 lf g (sl i) (sf i) (ss i) (si i) = some (r, lf', l', f', z', it') ∧ f_X7_sheet N (nI i) a2 a3 lf hT hF hS hI = some (r, lf', hT', hF', hS', hI') ∧ RH (va_up sl i l') (va_up sf i f') (va_up ss i z') (va_up si i it') hT' hF' hS' hI' := by
  have same : RH (va_up sl i (sl i)) (va_up sf i (sf i)) (va_up ss i (ss i)) (va_up si i (si i)) hT hF hS hI := by
    rw [vu_same, vu_same, vu_same, vu_same]; exact hH
  unfold f_X6_sheet_S f_X7_sheet
  rw [isSheet_in hi, bd1_t, if_neg i1n0]
  rcases form_or a2 with h | h
  · rw [(h N).1, (h N).2, bd1_t, bd1_t, if_neg i1n0, if_neg i1n0]
    by_cases c1 : a3 ≤ (100 : Int32)
    · rw [if_pos c1, if_pos c1]
      by_cases c2 : (0 : Int32) ≤ a3
      · rw [if_pos c2, if_pos c2]
        have d1 := c1
        have d2 := c2
        rw [Int32.le_iff_toInt_le] at d1 d2
        have e1 : (0 : Int32).toInt = 0 := by decide
        have e2 : (100 : Int32).toInt = 100 := by decide
        obtain ⟨z, hz, rfl⟩ := i32n (x := a3) (k := 100) (by omega) (by omega)
        simp only [n4 hi, ck_t, nI_clamp (show i < 2 ^ 31 by omega), nar_1]
        unfold f_X4_begin
        obtain ⟨it', g1, x1⟩ := loop_ex (σ := Nat → Int32) (fun j k a => L_X4_begin_17 N (fun u3 => (some ((0 : Int32), a2, nI z, u3))) j (nI k) a) (fun u3 => (some ((0 : Int32), a2, nI z, u3)))
          (fun k a => ∀ j, j < k → a j = 0) 100
          (fun j a h => by simp only [L_X4_begin_17, t100', ↓reduceIte])
          (fun j k a hk h => by
            refine ⟨upd a k 0, ?_, fun w hw => ?_⟩
            · simp only [L_X4_begin_17, n100' hk, ↓reduceIte, n100 hk, ck_t, nI_clamp (show k < 2 ^ 31 by omega), nI1]
            · by_cases c : w = k
              · subst c; exact upd_s
              · rw [upd_n c]; exact h w (by omega))
          100 0 N (si i) (by omega) (by omega) (fun _ h => by omega)
        obtain ⟨hI', ⟨g2, g3⟩, x2⟩ := loop_ex (σ := Nat → Int32) (fun j k a => L_X7_sheet_59 N (nI i) (fun u14 => (some (nI z, lf, upd hT i 1, upd hF i a2, upd hS i (nI z), u14))) j (nI k) a) (fun u14 => (some (nI z, lf, upd hT i 1, upd hF i a2, upd hS i (nI z), u14)))
          (fun k a => (∀ j, j < k → a (100 * i + j) = 0) ∧ ∀ j, j ≠ i → ∀ k, k < 100 → a (100 * j + k) = hI (100 * j + k)) 100
          (fun j a h => by simp only [L_X7_sheet_59, t100', ↓reduceIte])
          (fun j k a hk h => by
            refine ⟨upd a (100 * i + k) 0, ?_, fun w hw => ?_, fun w hw q hq => ?_⟩
            · simp only [L_X7_sheet_59, n100' hk, ↓reduceIte, at100, n400 (show 100 * i + k < 400 by omega), ck_t, nI_clamp (show 100 * i + k < 2 ^ 31 by omega), nI1]
            · by_cases c : w = k
              · subst c; exact upd_s
              · rw [upd_n (by omega)]; exact h.1 w (by omega)
            · rw [upd_n (by omega)]; exact h.2 w hw q hq)
          100 0 N hI (by omega) (by omega) ⟨fun _ h => by omega, fun _ _ _ _ => rfl⟩
        rw [show (0 : Int32) = nI 0 from rfl]
        rw [show (0 : Int32) = nI 0 from rfl] at x1
        rw [x1, x2, bd4_t]
        refine ⟨_, _, _, _, _, _, _, _, _, _, rfl, rfl, RH_up hH i ⟨true, rfl, upd_s⟩ upd_s.symm ⟨z, hz, rfl, upd_s⟩ (fun k hk => by rw [g1 k hk, g2 k hk]) (fun j c => upd_n c) (fun j c => upd_n c) (fun j c => upd_n c) g3⟩
      · rw [if_neg c2, if_neg c2, find_eq, meets_eq, bd2_t, bd2_t]
        exact ⟨_, _, _, _, _, _, _, _, _, _, rfl, rfl, same⟩
    · rw [if_neg c1, if_neg c1]
      exact ⟨_, _, _, _, _, _, _, _, _, _, rfl, rfl, same⟩
  · rw [(h N).1, (h N).2, bd1_t, bd1_t, if_pos rfl, if_pos rfl]
    exact ⟨_, _, _, _, _, _, _, _, _, _, rfl, rfl, same⟩
