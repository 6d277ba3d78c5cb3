/-! strings -/
def sm (ln : Nat → Nat) (s j : Nat) : Nat := fb_sm (fun i => min j (ln i)) s
def upN (f : Nat → Nat) (i v : Nat) : Nat → Nat := fun k => if k = i then v else f k
theorem upN_s (f : Nat → Nat) (i v : Nat) : upN f i v i = v := by simp [upN]
theorem upN_n {f : Nat → Nat} {i v k : Nat} (h : k ≠ i) : upN f i v k = f k := by simp [upN, h]
theorem isS {i s : Nat} (h : i < s) (hs : s ≤ 240) (N : Nat) : f_X5_isString N (nI i) (nI s) = some 1 := by
  unfold f_X5_isString
  rw [if_neg (nI_pos (by omega)), if_neg (nI_ge h (by omega)), if_neg (show ¬ (240 : Int32) ≤ nI i from nI_ge (b := 240) (by omega) (by decide))]
theorem lenOf {i s : Nat} (h : i < s) (hs : s ≤ 240) (N : Nat) (cl : Nat → Int32) : f_X5_lengthOf N (nI i) (nI s) cl = some (cl i) := by
  unfold f_X5_lengthOf
  rw [isS h hs, bd1_t, if_neg (by decide), inb_t (by omega) (by decide), ck_t, nI_clamp (by omega)]
theorem rigOf {i s : Nat} (h : i < s) (hs : s ≤ 240) (N : Nat) (cr : Nat → Int32) : f_X5_riggingOf N (nI i) (nI s) cr = some (cr i) := by
  unfold f_X5_riggingOf
  rw [isS h hs, bd1_t, if_neg (by decide), inb_t (by omega) (by decide), ck_t, nI_clamp (by omega)]
theorem roomL {j : Nat} (h : j ≤ 240) (N : Nat) (k : Int32) (cS : Nat → Int32) : f_X5_roomLeft N (nI j) k cS = some (k - 2 * cS j) := by
  unfold f_X5_roomLeft
  rw [if_neg (nI_pos (by omega)), if_pos (show nI j ≤ (240 : Int32) from nI_le (b := 240) h (by decide)), inb_t (by omega) (by decide), ck_t, nI_clamp (by omega)]
def rmf (ln : Nat → Nat) (s : Nat) (k : Int32) (j : Nat) : Int32 := k - 2 * nI (sm ln s j)
theorem mroom (N : Nat) (hN : 25000 ≤ N) {s j : Nat} (hs : s ≤ 240) (hj : j ≤ 240) (k : Int32) (ln : Nat → Nat) (ml : Nat → Int32) (h : ∀ i, i < s → ln i ≤ 240 ∧ ml i = nI (ln i)) : f_X7_room N (nI j) k (nI s) ml = some (rmf ln s k j) := by
  unfold f_X7_room
  obtain ⟨x, h3, e⟩ := loop_ex (σ := Int32) (fun f i a => L_X7_room_5 N (nI j) (nI s) ml (fun y5 => (some (k - ((2 : Int32) * y5)))) f a (nI i)) (fun y5 => (some (k - ((2 : Int32) * y5))))
    (fun i a => a = nI (sm ln i j)) s
    (fun f a h => by simp only [L_X7_room_5, tle (Nat.le_refl s) (show s < 2 ^ 31 by omega), ↓reduceIte])
    (fun f i a hi ha => by
      subst ha
      refine ⟨nI (sm ln (i + 1) j), ?_, rfl⟩
      obtain ⟨h1, h2⟩ := h i hi
      simp only [L_X7_room_5, nle hi (show s < 2 ^ 31 by omega), ↓reduceIte, inb_t (show i < 241 by omega) (by decide : 241 < 2 ^ 31), ck_t, nI_clamp (show i < 2 ^ 31 by omega), h2, nI1, nI_add]
      have e : sm ln (i + 1) j = sm ln i j + min j (ln i) := rfl
      rw [e]
      by_cases c : ln i ≤ j
      · rw [if_pos (nI_le c (by omega)), show min j (ln i) = ln i by omega]
      · rw [if_neg (nI_ge (by omega) (by omega)), show min j (ln i) = j by omega])
    s 0 N 0 (by omega) (by omega) rfl
  rw [h3] at e
  exact e
/-- the best tight string of the first i -/
def bs (g : Bool) (ln : Nat → Nat) (cr : Nat → Int32) (rf : Nat → Int32) : Nat → Option Nat
  | 0 => none
  | i + 1 => if cr i = rf (ln i) then (match bs g ln cr rf i with
    | none => some i
    | some b => if (if g then ln b < ln i else ln i < ln b) then some i else some b) else bs g ln cr rf i
def oI : Option Nat → Int32
  | none => -1
  | some b => nI b
theorem bs_lt {g : Bool} {ln : Nat → Nat} {cr : Nat → Int32} {rf : Nat → Int32} : ∀ {i b : Nat}, bs g ln cr rf i = some b → b < i
  | 0, b, h => by cases h
  | i + 1, b, h => by
    simp only [bs] at h
    split at h
    · split at h
      · cases h; omega
      · rename_i b' hb
        have := bs_lt hb
        by_cases hp : (if g then ln b' < ln i else ln i < ln b')
        · rw [if_pos hp] at h; cases h; omega
        · rw [if_neg hp] at h; cases h; omega
    · have := bs_lt h; omega
theorem bs_cong {g : Bool} {ln : Nat → Nat} {cr cr' : Nat → Int32} {rf : Nat → Int32} : ∀ {i : Nat}, (∀ k, k < i → cr k = cr' k) → bs g ln cr rf i = bs g ln cr' rf i
  | 0, _ => rfl
  | i + 1, h => by simp only [bs]; rw [bs_cong (fun k hk => h k (by omega)), h i (by omega)]
/-- the strings of both sides -/
def Str (s : Nat) (ln : Nat → Nat) (cl cr cS ml mr : Nat → Int32) : Prop := s ≤ 240 ∧ (∀ i, i < s → 1 ≤ ln i ∧ ln i ≤ 240 ∧ cl i = nI (ln i) ∧ ml i = nI (ln i) ∧ mr i = cr i) ∧ ∀ j, j ≤ 240 → cS j = nI (sm ln s j)
theorem tightS (N : Nat) {s : Nat} {ln : Nat → Nat} {cl cr cS ml mr : Nat → Int32} (h : Str s ln cl cr cS ml mr) {i : Nat} (hi : i < s) (k : Int32) : f_X5_isTight N (nI i) k (nI s) cl cr cS = some (if cr i = rmf ln s k (ln i) then 1 else 0) := by
  obtain ⟨hs, h1, h2⟩ := h
  obtain ⟨a1, a2, a3, a4, a5⟩ := h1 i hi
  unfold f_X5_isTight
  rw [rigOf hi hs, bd1_t, lenOf hi hs, bd1_t, a3, roomL a2, bd1_t, h2 _ a2]
  show (if cr i = rmf ln s k (ln i) then some 1 else some 0) = _
  split <;> rfl
theorem clong (N : Nat) (hN : 25000 ≤ N) {s : Nat} {ln : Nat → Nat} {cl cr cS ml mr : Nat → Int32} (h : Str s ln cl cr cS ml mr) (k : Int32) : f_X5_longestTight N k (nI s) cl cr cS = some (oI (bs true ln cr (rmf ln s k) s)) := by
  have hs := h.1
  unfold f_X5_longestTight
  obtain ⟨x, h3, e⟩ := loop_ex (σ := Int32) (fun f i a => L_X5_longestTight_4 N k (nI s) cl cr cS (fun y11 => (some y11)) f a (nI i)) (fun a => some a)
    (fun i a => a = oI (bs true ln cr (rmf ln s k) i)) s
    (fun f a ha => by simp only [L_X5_longestTight_4, tle (Nat.le_refl s) (show s < 2 ^ 31 by omega), ↓reduceIte])
    (fun f i a hi ha => by
      subst ha
      refine ⟨oI (bs true ln cr (rmf ln s k) (i + 1)), ?_, rfl⟩
      obtain ⟨a1, a2, a3, a4, a5⟩ := h.2.1 i hi
      simp only [L_X5_longestTight_4, nle hi (show s < 2 ^ 31 by omega), n240 (show i < 240 by omega), ↓reduceIte, tightS N h hi, bd1_t, nI1, bs]
      by_cases c : cr i = rmf ln s k (ln i)
      · simp only [c, ↓reduceIte, i10]
        cases hb : bs true ln cr (rmf ln s k) i with
        | none => simp only [oI, ↓reduceIte]
        | some b =>
          have hbl := bs_lt hb
          obtain ⟨b1, b2, b3, b4, b5⟩ := h.2.1 b (by omega)
          simp only [oI, eq_false (nI_nm1 (show b < 2 ^ 31 by omega)), ↓reduceIte, inb_t (show i < 240 by omega) (by decide : 240 < 2 ^ 31), ck_t, lenOf (show b < s by omega) hs, bd1_t, b3, a3, nI_clamp (show i < 2 ^ 31 by omega)]
          by_cases c2 : ln b < ln i
          · rw [if_neg (nI_ge c2 (by omega)), if_pos c2]
          · rw [if_pos (nI_le (Nat.le_of_not_lt c2) (by omega)), if_neg c2]
      · simp only [c, ↓reduceIte, i00])
    s 0 N (-1) (by omega) (by omega) rfl
  rw [h3] at e
  exact e
theorem cshort (N : Nat) (hN : 25000 ≤ N) {s : Nat} {ln : Nat → Nat} {cl cr cS ml mr : Nat → Int32} (h : Str s ln cl cr cS ml mr) (k : Int32) : f_X5_shortestTight N k (nI s) cl cr cS = some (oI (bs false ln cr (rmf ln s k) s)) := by
  have hs := h.1
  unfold f_X5_shortestTight
  obtain ⟨x, h3, e⟩ := loop_ex (σ := Int32) (fun f i a => L_X5_shortestTight_4 N k (nI s) cl cr cS (fun y11 => (some y11)) f a (nI i)) (fun a => some a)
    (fun i a => a = oI (bs false ln cr (rmf ln s k) i)) s
    (fun f a ha => by simp only [L_X5_shortestTight_4, tle (Nat.le_refl s) (show s < 2 ^ 31 by omega), ↓reduceIte])
    (fun f i a hi ha => by
      subst ha
      refine ⟨oI (bs false ln cr (rmf ln s k) (i + 1)), ?_, rfl⟩
      obtain ⟨a1, a2, a3, a4, a5⟩ := h.2.1 i hi
      simp only [L_X5_shortestTight_4, nle hi (show s < 2 ^ 31 by omega), n240 (show i < 240 by omega), ↓reduceIte, tightS N h hi, bd1_t, nI1, bs]
      by_cases c : cr i = rmf ln s k (ln i)
      · simp only [c, ↓reduceIte, i10]
        cases hb : bs false ln cr (rmf ln s k) i with
        | none => simp only [oI, ↓reduceIte]
        | some b =>
          have hbl := bs_lt hb
          obtain ⟨b1, b2, b3, b4, b5⟩ := h.2.1 b (by omega)
          simp only [oI, eq_false (nI_nm1 (show b < 2 ^ 31 by omega)), ↓reduceIte, inb_t (show i < 240 by omega) (by decide : 240 < 2 ^ 31), ck_t, lenOf (show b < s by omega) hs, bd1_t, b3, a3, nI_clamp (show i < 2 ^ 31 by omega), Bool.false_eq_true]
          by_cases c2 : ln i < ln b
          · rw [if_neg (nI_ge c2 (by omega)), if_pos c2]
          · rw [if_pos (nI_le (Nat.le_of_not_lt c2) (by omega)), if_neg c2]
      · simp only [c, ↓reduceIte, i00])
    s 0 N (-1) (by omega) (by omega) rfl
  rw [h3] at e
  exact e
theorem mtight (N : Nat) (hN : 25000 ≤ N) (g : Bool) {s : Nat} {ln : Nat → Nat} {cl cr cS ml mr : Nat → Int32} (h : Str s ln cl cr cS ml mr) (k : Int32) : f_X7_tight N k (bI g) (nI s) ml mr = some (oI (bs g ln cr (rmf ln s k) s)) := by
  have hs := h.1
  unfold f_X7_tight
  obtain ⟨x, h3, e⟩ := loop_ex (σ := Int32) (fun f i a => L_X7_tight_5 N k (bI g) (nI s) ml mr (fun y20 => (some y20)) f a (nI i)) (fun a => some a)
    (fun i a => a = oI (bs g ln cr (rmf ln s k) i)) s
    (fun f a ha => by simp only [L_X7_tight_5, tle (Nat.le_refl s) (show s < 2 ^ 31 by omega), ↓reduceIte])
    (fun f i a hi ha => by
      subst ha
      refine ⟨oI (bs g ln cr (rmf ln s k) (i + 1)), ?_, rfl⟩
      obtain ⟨a1, a2, a3, a4, a5⟩ := h.2.1 i hi
      simp only [L_X7_tight_5, nle hi (show s < 2 ^ 31 by omega), ↓reduceIte, inb_t (show i < 241 by omega) (by decide : 241 < 2 ^ 31), ck_t, nI_clamp (show i < 2 ^ 31 by omega), a4, mroom N hN hs a2 k ln ml (fun z hz => ⟨(h.2.1 z hz).2.1, (h.2.1 z hz).2.2.2.1⟩), bd1_t, a5, nI1, bs]
      by_cases c : cr i = rmf ln s k (ln i)
      · simp only [c, ↓reduceIte, i10, i00]
        cases hb : bs g ln cr (rmf ln s k) i with
        | none => simp only [oI, ↓reduceIte]
        | some b =>
          have hbl := bs_lt hb
          obtain ⟨b1, b2, b3, b4, b5⟩ := h.2.1 b (by omega)
          simp only [oI, eq_false (nI_nm1 (show b < 2 ^ 31 by omega)), ↓reduceIte, inb_t (show b < 241 by omega) (by decide : 241 < 2 ^ 31), ck_t, b4, nI_clamp (show b < 2 ^ 31 by omega)]
          cases g
          · simp only [bI_f, i00, ↓reduceIte, Bool.false_eq_true]
            by_cases c2 : ln i < ln b
            · rw [if_neg (nI_ge c2 (by omega)), if_pos c2]
            · rw [if_pos (nI_le (Nat.le_of_not_lt c2) (by omega)), if_neg c2]
          · simp only [bI_t, i10, ↓reduceIte]
            by_cases c2 : ln b < ln i
            · rw [if_neg (nI_ge c2 (by omega)), if_pos c2]
            · rw [if_pos (nI_le (Nat.le_of_not_lt c2) (by omega)), if_neg c2]
      · simp only [c, ↓reduceIte])
    s 0 N (-1) (by omega) (by omega) rfl
  rw [h3] at e
  exact e
theorem csums (N : Nat) (hN : 25000 ≤ N) {L : Nat} (hL : L ≤ 240) (d : Int32) (cS : Nat → Int32) : ∃ cS', f_X5_addToSums N (nI L) d cS = some cS' ∧ (∀ j, L ≤ j → j ≤ 240 → cS' j = cS j + d) ∧ ∀ j, j < L → cS' j = cS j := by
  unfold f_X5_addToSums
  have hm : mxI (nI L) 0 = nI L := by
    unfold mxI
    rw [if_neg (nI_pos (by omega))]
  rw [hm]
  obtain ⟨c', ⟨-, h3, h4⟩, e⟩ := loop_ex (σ := Nat → Int32) (fun f i a => L_X5_addToSums_6 N d (fun u4 => (some u4)) f (nI i) a) (fun a => some a)
    (fun i a => L ≤ i ∧ (∀ j, L ≤ j → j < i → a j = cS j + d) ∧ ∀ j, (j < L ∨ i ≤ j) → a j = cS j) 241
    (fun f a ha => by simp only [L_X5_addToSums_6]; rw [if_pos (by decide)])
    (fun f i a hi ha => by
      obtain ⟨hLi, ha⟩ := ha
      refine ⟨upd a i (a i + d), ?_, by omega, ?_, ?_⟩
      · simp only [L_X5_addToSums_6, eq_false (show ¬ (240 : Int32) < nI i from nI_nlt (a := 240) (b := i) (by omega) (by decide)), ↓reduceIte, inb_t hi (by decide : 241 < 2 ^ 31), ck_t, nI_clamp (show i < 2 ^ 31 by omega), nI1]
      · intro j h1 h2
        by_cases ej : j = i
        · subst ej; rw [upd_s, ha.2 j (by omega)]
        · rw [upd_n ej]; exact ha.1 j h1 (by omega)
      · intro j h1
        by_cases ej : j = i
        · subst ej
          exfalso
          omega
        · rw [upd_n ej]; exact ha.2 j (by omega))
    (241 - L) L N cS (by omega) (by omega) ⟨Nat.le_refl L, fun j h1 h2 => by omega, fun j _ => rfl⟩
  exact ⟨c', e, fun j h1 h2 => h3 j h1 (by omega), fun j hj => h4 j (Or.inl hj)⟩
theorem sm_le (ln : Nat → Nat) (s j : Nat) : sm ln s j ≤ fb_sm ln s := fb_sm_le (fun k _ => Nat.min_le_right _ _)
theorem sm_up {ln : Nat → Nat} {s b L : Nat} (hb : b < s) (h : ln b + 1 = L) (j : Nat) : sm (upN ln b L) s j = sm ln s j + if L ≤ j then 1 else 0 := by
  have e1 : sm (upN ln b L) s j = fb_sm (fun k => if k = b then min j L else min j (ln k)) s := fb_sm_cong (fun k hk => by
    show min j (upN ln b L k) = _
    by_cases e : k = b
    · subst e; rw [upN_s, if_pos rfl]
    · rw [upN_n e, if_neg e])
  have e2 := fb_sm_upd (fun k => min j (ln k)) (min j L) hb
  have e3 : sm ln s j = fb_sm (fun k => min j (ln k)) s := rfl
  rw [e1, e3]
  by_cases c : L ≤ j
  · rw [if_pos c]; omega
  · rw [if_neg c]; omega
theorem sm_new (ln : Nat → Nat) (s j : Nat) : sm (upN ln s 1) (s + 1) j = sm ln s j + if 1 ≤ j then 1 else 0 := by
  have e1 : sm (upN ln s 1) (s + 1) j = fb_sm (fun k => min j (upN ln s 1 k)) s + min j (upN ln s 1 s) := rfl
  rw [e1, upN_s, fb_sm_cong (g := fun k => min j (ln k)) (fun k hk => by rw [upN_n (by omega)])]
  show sm ln s j + _ = _
  by_cases c : 1 ≤ j
  · rw [if_pos c]; omega
  · rw [if_neg c]; omega
theorem fb_up {ln : Nat → Nat} {s b L : Nat} (hb : b < s) (h : ln b + 1 = L) : fb_sm (upN ln b L) s = fb_sm ln s + 1 := by
  have e2 := fb_sm_upd ln L hb
  have : fb_sm (upN ln b L) s = fb_sm (fun k => if k = b then L else ln k) s := rfl
  omega
theorem fb_new (ln : Nat → Nat) (s : Nat) : fb_sm (upN ln s 1) (s + 1) = fb_sm ln s + 1 := by
  have e1 : fb_sm (upN ln s 1) (s + 1) = fb_sm (upN ln s 1) s + upN ln s 1 s := rfl
  rw [e1, upN_s, fb_sm_cong (g := ln) (fun k hk => upN_n (by omega))]
theorem s_le_tot {ln : Nat → Nat} : ∀ {s : Nat}, (∀ i, i < s → 1 ≤ ln i) → s ≤ fb_sm ln s
  | 0, _ => Nat.zero_le _
  | s + 1, h => by
    have := s_le_tot (ln := ln) (s := s) (fun i hi => h i (by omega))
    have := h s (by omega)
    rw [fb_sm_succ]
    omega
theorem rd_step (N : Nat) (hN : 25000 ≤ N) {s : Nat} {ln : Nat → Nat} {cl cr cS ml mr : Nat → Int32} (h : Str s ln cl cr cS ml mr) {k : Nat} (hk : k < 240) (ht : fb_sm ln s ≤ k) :
    ∃ (s' : Nat) (ln' : Nat → Nat) (cl' cr' cS' ml' mr' : Nat → Int32), f_X5_takeBall N (nI k) (nI s) cl cr cS = some (nI s', cl', cr', cS') ∧ Str s' ln' cl' cr' cS' ml' mr' ∧ fb_sm ln' s' ≤ k + 1 ∧
      (∀ (x1 : Int32) (mb : Nat → Int32) (K : Int32 → (Nat → Int32) → (Nat → Int32) → Option (Int32 × (Nat → Int32) × (Nat → Int32))) (f : Nat), ¬ x1 ≤ nI k → mb k = 1 → L_X7_reads_7 N x1 mb K (f + 1) (nI k) (nI s) ml mr = L_X7_reads_7 N x1 mb K f (nI (k + 1)) (nI s') ml' mr') := by
  have hs := h.1
  have h1 := h.2.1
  have h2 := h.2.2
  have hst := s_le_tot (ln := ln) (s := s) (fun i hi => (h1 i hi).1)
  have hst2 : s < 240 := by omega
  have hl := clong N hN h (nI k)
  have hm : f_X7_tight N (nI k) 1 (nI s) ml mr = some (oI (bs true ln cr (rmf ln s (nI k)) s)) := mtight N hN true h (nI k)
  cases hb : bs true ln cr (rmf ln s (nI k)) s with
  | none =>
    rw [hb] at hl hm
    obtain ⟨cS', e1, g1, g2⟩ := csums N hN (L := 1) (by omega) 1 cS
    have hS' : ∀ j, j ≤ 240 → cS' j = nI (sm (upN ln s 1) (s + 1) j) := fun j hj => by
      rw [sm_new]
      by_cases c : 1 ≤ j
      · rw [g1 j c hj, h2 j hj, if_pos c, nI1]
      · rw [g2 j (by omega), h2 j hj, if_neg c, Nat.add_zero]
    have hml : ∀ i, i < s + 1 → upN ln s 1 i ≤ 240 ∧ upd ml s 1 i = nI (upN ln s 1 i) := fun i hi => by
      by_cases e : i = s
      · subst e; rw [upN_s, upd_s]; exact ⟨by omega, rfl⟩
      · rw [upN_n e, upd_n e]; exact ⟨(h1 i (by omega)).2.1, (h1 i (by omega)).2.2.2.1⟩
    refine ⟨s + 1, upN ln s 1, upd cl s 1, upd cr s (rmf (upN ln s 1) (s + 1) (nI (k + 1)) 1), cS', upd ml s 1, upd mr s (rmf (upN ln s 1) (s + 1) (nI (k + 1)) 1), ?_, ⟨by omega, fun i hi => ?_, hS'⟩, by rw [fb_new]; omega, ?_⟩
    · unfold f_X5_takeBall f_X5_addString
      rw [hl, bd1_t]
      simp only [oI, ↓reduceIte]
      rw [if_pos (show nI s < (240 : Int32) from nI_lt (b := 240) hst2 (by decide)), inb_t hst2 (by decide), ck_t, bd3_t, nI1, nI_pred, isS (Nat.lt_succ_self s) (by omega), bd1_t, if_neg (by decide)]
      simp only [inb_t hst2 (by decide : 240 < 2 ^ 31), ck_t, nI_clamp (show s < 2 ^ 31 by omega), upd_s, upd_u, Int32.zero_add, nI1]
      rw [show f_X5_addToSums N 1 1 cS = some cS' from e1, bd1_t, show f_X5_roomLeft N 1 (nI (k + 1)) cS' = some (nI (k + 1) - 2 * cS' 1) from roomL (j := 1) (by omega) N _ cS', bd1_t, hS' 1 (by omega)]
      rfl
    · by_cases e : i = s
      · subst e; rw [upN_s, upd_s, upd_s, upd_s, upd_s]; exact ⟨by omega, by omega, rfl, rfl, rfl⟩
      · obtain ⟨a1, a2, a3, a4, a5⟩ := h1 i (by omega)
        rw [upN_n e, upd_n e, upd_n e, upd_n e, upd_n e]; exact ⟨a1, a2, a3, a4, a5⟩
    · intro x1 mb K f hx hmb
      rw [L_X7_reads_7, if_neg hx, inb_t hk (by decide), ck_t, nI_clamp (by omega), hmb, if_neg (by decide), hm, bd1_t]
      simp only [oI, ↓reduceIte, inb_t (show s < 241 by omega) (by decide : 241 < 2 ^ 31), ck_t, nI_clamp (show s < 2 ^ 31 by omega), upd_s, upd_u, Int32.zero_add, nI1]
      rw [show f_X7_room N 1 (nI (k + 1)) (nI (s + 1)) (upd ml s 1) = some (rmf (upN ln s 1) (s + 1) (nI (k + 1)) 1) from mroom N hN (j := 1) (by omega) (by omega) _ (upN ln s 1) (upd ml s 1) hml, bd1_t]
  | some b =>
    rw [hb] at hl hm
    have hbs := bs_lt hb
    obtain ⟨a1, a2, a3, a4, a5⟩ := h1 b hbs
    have hpart := fb_sm_part ln hbs
    have hlb : ln b + 1 ≤ 240 := by omega
    obtain ⟨cS', e1, g1, g2⟩ := csums N hN (L := ln b + 1) hlb 1 cS
    have hS' : ∀ j, j ≤ 240 → cS' j = nI (sm (upN ln b (ln b + 1)) s j) := fun j hj => by
      rw [sm_up hbs rfl]
      by_cases c : ln b + 1 ≤ j
      · rw [g1 j c hj, h2 j hj, if_pos c, nI1]
      · rw [g2 j (by omega), h2 j hj, if_neg c, Nat.add_zero]
    have hml : ∀ i, i < s → upN ln b (ln b + 1) i ≤ 240 ∧ upd ml b (nI (ln b + 1)) i = nI (upN ln b (ln b + 1) i) := fun i hi => by
      by_cases e : i = b
      · subst e; rw [upN_s, upd_s]; exact ⟨hlb, rfl⟩
      · rw [upN_n e, upd_n e]; exact ⟨(h1 i hi).2.1, (h1 i hi).2.2.2.1⟩
    refine ⟨s, upN ln b (ln b + 1), upd cl b (nI (ln b + 1)), upd cr b (rmf (upN ln b (ln b + 1)) s (nI (k + 1)) (ln b + 1)), cS', upd ml b (nI (ln b + 1)), upd mr b (rmf (upN ln b (ln b + 1)) s (nI (k + 1)) (ln b + 1)), ?_, ⟨hs, fun i hi => ?_, hS'⟩, by rw [fb_up hbs rfl]; omega, ?_⟩
    · unfold f_X5_takeBall
      rw [hl, bd1_t]
      simp only [oI, eq_false (nI_nm1 (show b < 2 ^ 31 by omega)), ↓reduceIte]
      rw [isS hbs hs, bd1_t, if_neg (by decide)]
      simp only [inb_t (show b < 240 by omega) (by decide : 240 < 2 ^ 31), ck_t, nI_clamp (show b < 2 ^ 31 by omega), upd_s, a3, nI1, e1, bd1_t, roomL hlb, hS' (ln b + 1) hlb]
      rfl
    · by_cases e : i = b
      · subst e; rw [upN_s, upd_s, upd_s, upd_s, upd_s]; exact ⟨by omega, hlb, rfl, rfl, rfl⟩
      · obtain ⟨a1, a2, a3, a4, a5⟩ := h1 i hi
        rw [upN_n e, upd_n e, upd_n e, upd_n e, upd_n e]; exact ⟨a1, a2, a3, a4, a5⟩
    · intro x1 mb K f hx hmb
      rw [L_X7_reads_7, if_neg hx, inb_t hk (by decide), ck_t, nI_clamp (by omega), hmb, if_neg (by decide), hm, bd1_t]
      simp only [oI, eq_false (nI_nm1 (show b < 2 ^ 31 by omega)), ↓reduceIte, inb_t (show b < 241 by omega) (by decide : 241 < 2 ^ 31), ck_t, nI_clamp (show b < 2 ^ 31 by omega), upd_s, a4, nI1, mroom N hN hs hlb (nI (k + 1)) (upN ln b (ln b + 1)) (upd ml b (nI (ln b + 1))) hml, bd1_t]
theorem cclear (N : Nat) (hN : 25000 ≤ N) (ts : Int32) (tS : Nat → Int32) : ∃ cS', f_X5_clear N ts tS = some (0, cS') ∧ ∀ j, j ≤ 240 → cS' j = 0 := by
  unfold f_X5_clear
  obtain ⟨c', h3, e⟩ := loop_ex (σ := Nat → Int32) (fun f i a => L_X5_clear_7 N (fun u3 => (some ((0 : Int32), u3))) f (nI i) a) (fun a => some (0, a))
    (fun i a => ∀ j, j < i → a j = 0) 241
    (fun f a ha => by simp only [L_X5_clear_7]; rw [if_pos (by decide)])
    (fun f i a hi ha => by
      refine ⟨upd a i 0, ?_, fun j hj => ?_⟩
      · simp only [L_X5_clear_7, eq_false (show ¬ (240 : Int32) < nI i from nI_nlt (a := 240) (b := i) (by omega) (by decide)), ↓reduceIte, inb_t hi (by decide : 241 < 2 ^ 31), ck_t, nI_clamp (show i < 2 ^ 31 by omega), nI1]
      · by_cases ej : j = i
        · subst ej; exact upd_s
        · rw [upd_n ej]; exact ha j (by omega))
    241 0 N tS rfl (by omega) (fun j hj => by omega)
  exact ⟨c', e, fun j hj => h3 j (by omega)⟩
/-- both read the same strings -/
theorem reads (N : Nat) (hN : 25000 ≤ N) {n : Nat} (hn : n ≤ 240) (cb mb : Nat → Int32) (B : Nat → Bool) (b1 : ∀ k, k < 240 → cb k = bI (B k)) (b2 : ∀ k, k < 240 → mb k = bI (B k)) (ts tb : Int32) (tl tr tS : Nat → Int32) (my : Int32) (mL mR : Nat → Int32) :
    ∃ (s : Nat) (ln : Nat → Nat) (cl cr cS ml mr : Nat → Int32), f_X5_readFrom N (nI n) ts tb tl tr tS cb = some (nI s, nI n, cl, cr, cS) ∧ f_X7_reads N (nI n) my mb mL mR = some (nI s, ml, mr) ∧ Str s ln cl cr cS ml mr ∧ fb_sm ln s ≤ 240 := by
  unfold f_X5_readFrom f_X7_reads
  obtain ⟨c0, e0, h0⟩ := cclear N hN ts tS
  rw [e0, bd2_t]
  have key : ∀ (j k f : Nat) (s : Nat) (ln : Nat → Nat) (cl cr cS ml mr : Nat → Int32), k + j = n → j < f → Str s ln cl cr cS ml mr → fb_sm ln s ≤ k →
      ∃ (s' : Nat) (ln' : Nat → Nat) (cl' cr' cS' ml' mr' : Nat → Int32), L_X5_readFrom_6 N (nI n) cb (fun u13 u14 u15 u16 => (some (u13, nI n, u14, u15, u16))) f (nI k) (nI s) cl cr cS = some (nI s', nI n, cl', cr', cS') ∧ L_X7_reads_7 N (nI n) mb (fun u20 u21 u22 => (some (u20, u21, u22))) f (nI k) (nI s) ml mr = some (nI s', ml', mr') ∧ Str s' ln' cl' cr' cS' ml' mr' ∧ fb_sm ln' s' ≤ n := by
    intro j
    induction j with
    | zero =>
      intro k f s ln cl cr cS ml mr hk hf h ht
      obtain ⟨f, rfl⟩ : ∃ z, f = z + 1 := ⟨f - 1, by omega⟩
      obtain rfl : k = n := by omega
      refine ⟨s, ln, cl, cr, cS, ml, mr, ?_, ?_, h, ht⟩
      · simp only [L_X5_readFrom_6, tle (Nat.le_refl k) (show k < 2 ^ 31 by omega), ↓reduceIte]
      · simp only [L_X7_reads_7, tle (Nat.le_refl k) (show k < 2 ^ 31 by omega), ↓reduceIte]
    | succ j ih =>
      intro k f s ln cl cr cS ml mr hk hf h ht
      obtain ⟨f, rfl⟩ : ∃ z, f = z + 1 := ⟨f - 1, by omega⟩
      have hx : ¬ nI n ≤ nI k := nI_ge (by omega) (by omega)
      rcases ft (B k) with q | q
      · obtain ⟨s', ln', cl', cr', cS', ml', mr', e1, e2, g1, g2⟩ := ih (k + 1) f s ln cl cr cS ml mr (by omega) (by omega) h (by omega)
        refine ⟨s', ln', cl', cr', cS', ml', mr', ?_, ?_, g1, g2⟩
        · rw [L_X5_readFrom_6, if_neg hx, ballAt_in (by omega), bd1_t, b1 k (by omega), q, bI_f, if_pos rfl, nI1]
          exact e1
        · rw [L_X7_reads_7, if_neg hx, inb_t (show k < 240 by omega) (by decide), ck_t, nI_clamp (by omega), b2 k (by omega), q, bI_f, if_pos rfl, nI1]
          exact e2
      · obtain ⟨s1, ln1, cl1, cr1, cS1, ml1, mr1, q1, q2, q3, q4⟩ := rd_step N hN h (show k < 240 by omega) ht
        obtain ⟨s', ln', cl', cr', cS', ml', mr', e1, e2, g1, g2⟩ := ih (k + 1) f s1 ln1 cl1 cr1 cS1 ml1 mr1 (by omega) (by omega) q2 q3
        refine ⟨s', ln', cl', cr', cS', ml', mr', ?_, ?_, g1, g2⟩
        · rw [L_X5_readFrom_6, if_neg hx, ballAt_in (by omega), bd1_t, b1 k (by omega), q, bI_t, if_neg (by decide), q1, bd4_t, nI1]
          exact e1
        · rw [q4 (nI n) mb _ f hx (by rw [b2 k (by omega), q]; rfl)]
          exact e2
  obtain ⟨s, ln, cl, cr, cS, ml, mr, e1, e2, g1, g2⟩ := key n 0 N 0 (fun _ => 0) tl tr c0 mL mR (by omega) (by omega) ⟨by omega, fun i hi => by omega, fun j hj => by rw [h0 j hj]; rfl⟩ (Nat.le_refl _)
  exact ⟨s, ln, cl, cr, cS, ml, mr, e1, e2, g1, by omega⟩
