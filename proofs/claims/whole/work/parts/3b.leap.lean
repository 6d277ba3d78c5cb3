/-! leaps -/
theorem sm_dn {ln : Nat → Nat} {s b L : Nat} (hb : b < s) (h : ln b = L + 1) (j : Nat) : sm (upN ln b L) s j + (if L + 1 ≤ j then 1 else 0) = sm ln s j := by
  have e := sm_up (ln := upN ln b L) (L := L + 1) hb (by rw [upN_s]) j
  have e2 : sm (upN (upN ln b L) b (L + 1)) s j = sm ln s j := fb_sm_cong (fun k hk => by
    show min j (upN (upN ln b L) b (L + 1) k) = min j (ln k)
    by_cases ek : k = b
    · subst ek; rw [upN_s, h]
    · rw [upN_n ek, upN_n ek])
  rw [← e2, e]
theorem fb_mv (g : Nat → Nat) {s b : Nat} (hb : b < s + 1) : fb_sm (fun i => if i = b then g s else g i) s + g b = fb_sm g (s + 1) := by
  rw [fb_sm_succ]
  by_cases e : b = s
  · subst e
    rw [fb_sm_out g (g b) (Nat.le_refl b)]
  · exact fb_sm_upd g (g s) (by omega)
theorem gv_step (N : Nat) (hN : 25000 ≤ N) {s : Nat} {ln : Nat → Nat} {cl cr cS ml mr : Nat → Int32} (h : Str s ln cl cr cS ml mr) {k : Nat} (hk : k < 240) :
    ∃ (g : Bool) (s' : Nat) (ln' : Nat → Nat) (cl' cr' cS' ml' mr' : Nat → Int32), f_X5_giveBall N (nI k) (nI s) cl cr cS = some (bI g, nI s', cl', cr', cS') ∧ Str s' ln' cl' cr' cS' ml' mr' ∧
      (∀ (mn : Nat → Int32) (K : Int32 → (Nat → Int32) → (Nat → Int32) → (Nat → Int32) → Option (Int32 × Int32 × (Nat → Int32) × (Nat → Int32) × (Nat → Int32))) (f : Nat), L_X7_makes_4 N K (f + 1) (nI k) (nI s) mn ml mr = L_X7_makes_4 N K f (nI k + (-1 : Int32)) (nI s') (upd mn k (bI g)) ml' mr') := by
  have hs := h.1
  have h1 := h.2.1
  have h2 := h.2.2
  have hl := cshort N hN h (nI (k + 1))
  have hm : f_X7_tight N (nI (k + 1)) 0 (nI s) ml mr = some (oI (bs false ln cr (rmf ln s (nI (k + 1))) s)) := mtight N hN false h (nI (k + 1))
  have hk0 : ¬ nI k < 0 := nI_pos (by omega)
  cases hb : bs false ln cr (rmf ln s (nI (k + 1))) s with
  | none =>
    rw [hb] at hl hm
    refine ⟨false, s, ln, cl, cr, cS, ml, mr, ?_, h, ?_⟩
    · unfold f_X5_giveBall
      rw [nI1, hl, bd1_t, show f_X5_isString N (oI none) (nI s) = some 0 by unfold f_X5_isString; rw [if_pos (by decide)], bd1_t, if_pos rfl]
      rfl
    · intro mn K f
      rw [L_X7_makes_4, if_neg hk0, nI1, hm, bd1_t]
      simp only [oI, ↓reduceIte, inb_t hk (by decide : 240 < 2 ^ 31), ck_t, nI_clamp (show k < 2 ^ 31 by omega), nar_0, bI_f]
  | some b =>
    rw [hb] at hl hm
    have hbs := bs_lt hb
    obtain ⟨a1, a2, a3, a4, a5⟩ := h1 b hbs
    obtain ⟨L, hL⟩ : ∃ L, ln b = L + 1 := ⟨ln b - 1, by omega⟩
    obtain ⟨cS', e1, g1, g2⟩ := csums N hN (L := L + 1) (by omega) (-1) cS
    have hS' : ∀ j, j ≤ 240 → cS' j = nI (sm (upN ln b L) s j) := fun j hj => by
      have := sm_dn hbs hL j
      by_cases c : L + 1 ≤ j
      · rw [if_pos c] at this
        rw [g1 j c hj, h2 j hj, ← this, pk_m1]
      · rw [if_neg c] at this
        rw [g2 j (by omega), h2 j hj, ← this, Nat.add_zero]
    have hne : nI b = -1 ↔ False := iff_false_intro (nI_nm1 (by omega))
    have eL : nI (L + 1) - 1 = nI L := nI_pred L
    by_cases hL0 : L = 0
    · subst hL0
      obtain ⟨s, rfl⟩ : ∃ z, s = z + 1 := ⟨s - 1, by omega⟩
      have es : nI (s + 1) - 1 = nI s := nI_pred s
      have hln : ∀ i, i < s → (if i = b then ln s else ln i) = (if i = b then upN ln b 0 s else upN ln b 0 i) := fun i hi => by
        by_cases e : i = b
        · subst e; rw [if_pos rfl, if_pos rfl, upN_n (by omega)]
        · rw [if_neg e, if_neg e, upN_n e]
      refine ⟨true, s, fun i => if i = b then ln s else ln i, upd (upd (upd cl b 0) b ((upd cl b 0) s)) s ((upd cl b 0) b), upd (upd cr b (cr s)) s (cr b), cS', upd (upd ml b 0) b ((upd ml b 0) s), upd mr b (mr s), ?_, ⟨by omega, fun i hi => ?_, fun j hj => ?_⟩, ?_⟩
      · unfold f_X5_giveBall f_X5_removeString
        rw [nI1, hl, bd1_t]
        simp only [oI]
        rw [isS hbs hs, bd1_t, if_neg (by decide)]
        simp only [inb_t (show b < 240 by omega) (by decide : 240 < 2 ^ 31), ck_t, nI_clamp (show b < 2 ^ 31 by omega), a3, hL, e1, bd1_t, upd_s, eL]
        rw [if_pos (show nI 0 = (0 : Int32) from rfl), es, cswap N hs hbs (Nat.lt_succ_self s), bd2_t, bd3_t, show nI 0 = (0 : Int32) from rfl, upd_s]
        rfl
      · by_cases e : i = b
        · subst e
          obtain ⟨c1, c2, c3, c4, c5⟩ := h1 s (Nat.lt_succ_self s)
          simp only [↓reduceIte]
          rw [upd_n (show i ≠ s by omega), upd_s, upd_n (show s ≠ i by omega), upd_s, upd_n (show s ≠ i by omega), upd_s, upd_n (show i ≠ s by omega), upd_s]
          exact ⟨c1, c2, c3, c4, c5⟩
        · obtain ⟨c1, c2, c3, c4, c5⟩ := h1 i (by omega)
          dsimp only
          rw [if_neg e, upd_n (show i ≠ s by omega), upd_n e, upd_n e, upd_n e, upd_n e, upd_n e, upd_n (show i ≠ s by omega), upd_n e]
          exact ⟨c1, c2, c3, c4, c5⟩
      · rw [hS' j hj]
        congr 1
        have e2 := fb_mv (fun i => min j (upN ln b 0 i)) hbs
        simp only [upN_s, Nat.min_zero, Nat.add_zero] at e2
        show fb_sm (fun i => min j (upN ln b 0 i)) (s + 1) = fb_sm (fun i => min j (if i = b then ln s else ln i)) s
        rw [← e2]
        refine fb_sm_cong (fun i hi => ?_)
        rw [hln i hi]
        by_cases e : i = b
        · rw [if_pos e, if_pos e]
        · rw [if_neg e, if_neg e]
      · intro mn K f
        rw [L_X7_makes_4, if_neg hk0, nI1, hm, bd1_t]
        simp only [oI, hne, ↓reduceIte, inb_t hk (by decide : 240 < 2 ^ 31), inb_t (show b < 241 by omega) (by decide : 241 < 2 ^ 31), ck_t, nI_clamp (show k < 2 ^ 31 by omega), nI_clamp (show b < 2 ^ 31 by omega), nar_1, bI_t, a4, hL, eL, upd_s]
        rw [if_pos (show nI 0 = (0 : Int32) from rfl)]
        unfold f_X7_drops
        rw [es, inb_t (show s < 241 by omega) (by decide), inb_t (show b < 241 by omega) (by decide)]
        simp only [ck_t, bd3_t, nI_clamp (show b < 2 ^ 31 by omega), nI_clamp (show s < 2 ^ 31 by omega)]
        rfl
    · have hml : ∀ i, i < s → upN ln b L i ≤ 240 ∧ upd ml b (nI L) i = nI (upN ln b L i) := fun i hi => by
        by_cases e : i = b
        · subst e; rw [upN_s, upd_s]; exact ⟨by omega, rfl⟩
        · rw [upN_n e, upd_n e]; exact ⟨(h1 i hi).2.1, (h1 i hi).2.2.2.1⟩
      have hL1 : (nI L = 0) = False := eq_false (nI_ne0 (by omega) (by omega))
      refine ⟨true, s, upN ln b L, upd cl b (nI L), upd cr b (rmf (upN ln b L) s (nI k) L), cS', upd ml b (nI L), upd mr b (rmf (upN ln b L) s (nI k) L), ?_, ⟨hs, fun i hi => ?_, hS'⟩, ?_⟩
      · unfold f_X5_giveBall
        rw [nI1, hl, bd1_t]
        simp only [oI]
        rw [isS hbs hs, bd1_t, if_neg (by decide)]
        simp only [inb_t (show b < 240 by omega) (by decide : 240 < 2 ^ 31), ck_t, nI_clamp (show b < 2 ^ 31 by omega), a3, hL, e1, bd1_t, upd_s, eL, hL1, ↓reduceIte, roomL (show L ≤ 240 by omega), hS' L (by omega)]
        rfl
      · by_cases e : i = b
        · subst e; rw [upN_s, upd_s, upd_s, upd_s, upd_s]; exact ⟨by omega, by omega, rfl, rfl, rfl⟩
        · obtain ⟨c1, c2, c3, c4, c5⟩ := h1 i hi
          rw [upN_n e, upd_n e, upd_n e, upd_n e, upd_n e]; exact ⟨c1, c2, c3, c4, c5⟩
      · intro mn K f
        rw [L_X7_makes_4, if_neg hk0, nI1, hm, bd1_t]
        simp only [oI, hne, ↓reduceIte, inb_t hk (by decide : 240 < 2 ^ 31), inb_t (show b < 241 by omega) (by decide : 241 < 2 ^ 31), ck_t, nI_clamp (show k < 2 ^ 31 by omega), nI_clamp (show b < 2 ^ 31 by omega), nar_1, bI_t, a4, hL, eL, upd_s, hL1, mroom N hN hs (show L ≤ 240 by omega) (nI k) (upN ln b L) (upd ml b (nI L)) hml, bd1_t]
def ctrI : Nat → Int32
  | 0 => -1
  | k + 1 => nI k
theorem ctrI_s (k : Nat) : nI k + (-1 : Int32) = ctrI k := by
  cases k with
  | zero => rfl
  | succ k => exact pk_m1 k
theorem mk_loop (N : Nat) (hN : 25000 ≤ N) (K : Int32 → (Nat → Int32) → (Nat → Int32) → (Nat → Int32) → (Nat → Int32) → Option (Int32 × Int32 × (Nat → Int32) × (Nat → Int32) × (Nat → Int32) × (Nat → Int32))) (K' : Int32 → (Nat → Int32) → (Nat → Int32) → (Nat → Int32) → Option (Int32 × Int32 × (Nat → Int32) × (Nat → Int32) × (Nat → Int32))) :
    ∀ (k f f2 s : Nat) (ln : Nat → Nat) (cl cr cS ml mr cm mn : Nat → Int32), k ≤ 240 → k < f → k < f2 → Str s ln cl cr cS ml mr → (∀ i, k ≤ i → i < 240 → ∃ g : Bool, cm i = bI g ∧ mn i = bI g) →
      ∃ (s' : Nat) (cl' cr' cS' ml' mr' cm' mn' : Nat → Int32), L_X5_makeInto_4 N K f (ctrI k) (nI s) cl cr cS cm = K (nI s') cl' cr' cS' cm' ∧ L_X7_makes_4 N K' f2 (ctrI k) (nI s) mn ml mr = K' (nI s') mn' ml' mr' ∧ s' ≤ 240 ∧ ∀ i, i < 240 → ∃ g : Bool, cm' i = bI g ∧ mn' i = bI g := by
  intro k
  induction k with
  | zero =>
    intro f f2 s ln cl cr cS ml mr cm mn hk hf hf2 h hz
    obtain ⟨f, rfl⟩ : ∃ z, f = z + 1 := ⟨f - 1, by omega⟩
    obtain ⟨f2, rfl⟩ : ∃ z, f2 = z + 1 := ⟨f2 - 1, by omega⟩
    refine ⟨s, cl, cr, cS, ml, mr, cm, mn, ?_, ?_, h.1, fun i hi => hz i (Nat.zero_le i) hi⟩
    · rw [L_X5_makeInto_4, if_pos (by decide)]
    · rw [L_X7_makes_4, if_pos (by decide)]
  | succ k ih =>
    intro f f2 s ln cl cr cS ml mr cm mn hk hf hf2 h hz
    obtain ⟨f, rfl⟩ : ∃ z, f = z + 1 := ⟨f - 1, by omega⟩
    obtain ⟨f2, rfl⟩ : ∃ z, f2 = z + 1 := ⟨f2 - 1, by omega⟩
    obtain ⟨g, s1, ln1, cl1, cr1, cS1, ml1, mr1, e1, h1, e2⟩ := gv_step N hN h (show k < 240 by omega)
    obtain ⟨s', cl', cr', cS', ml', mr', cm', mn', q1, q2, q3, q4⟩ := ih f f2 s1 ln1 cl1 cr1 cS1 ml1 mr1 (upd cm k (bI g)) (upd mn k (bI g)) (by omega) (by omega) (by omega) h1 (fun i hi hi2 => by
      by_cases e : i = k
      · subst e; exact ⟨g, upd_s, upd_s⟩
      · rw [upd_n e, upd_n e]; exact hz i (by omega) hi2)
    refine ⟨s', cl', cr', cS', ml', mr', cm', mn', ?_, ?_, q3, q4⟩
    · show L_X5_makeInto_4 N K (f + 1) (nI k) (nI s) cl cr cS cm = _
      rw [L_X5_makeInto_4, if_neg (nI_pos (by omega)), e1, bd5_t, makeBox_in (by omega), bd1_t, ctrI_s]
      exact q1
    · show L_X7_makes_4 N K' (f2 + 1) (nI k) (nI s) mn ml mr = _
      rw [e2, ctrI_s]
      exact q2
def al (p : Nat → Bool) : Nat → Bool
  | 0 => true
  | k + 1 => al p k && p k
def alf (p : Nat → Bool) : Nat → Nat → Bool
  | _, 0 => true
  | i, j + 1 => p i && alf p (i + 1) j
theorem al_alf (p : Nat → Bool) : ∀ j i, al p (i + j) = (al p i && alf p i j)
  | 0, i => by simp [alf]
  | j + 1, i => by
    rw [show i + (j + 1) = i + 1 + j by omega, al_alf p j (i + 1)]
    simp only [al, alf, Bool.and_assoc]
theorem and0 (x : Bool) : bI x &&& 0 = bI (x && false) := by cases x <;> rfl
theorem and1 (x : Bool) : bI x &&& 1 = bI (x && true) := by cases x <;> rfl
/-- a rigging behind the leap -/
def rgl (r : Nat) (t : Int32) (ln : Nat → Nat) (cr : Nat → Int32) (i : Nat) : Int32 := cr i + t * nI (min r (ln i))
theorem mnI_eq {a b : Nat} (ha : a < 1000) (hb : b < 1000) : mnI (nI a) (nI b) = nI (min a b) := by
  unfold mnI
  by_cases c : b < a
  · rw [if_pos (nI_lt c (by omega)), show min a b = b by omega]
  · rw [if_neg (nI_nlt (by omega) (by omega)), show min a b = a by omega]
theorem cadd (N : Nat) (hN : 25000 ≤ N) {s r : Nat} (hr : r ≤ 50) (t : Int32) {ln : Nat → Nat} {cl cr cS ml mr : Nat → Int32} (h : Str s ln cl cr cS ml mr) : ∃ c', f_X5_addToRiggings N (nI r) t (nI s) cl cr = some c' ∧ ∀ i, i < s → c' i = rgl r t ln cr i := by
  have hs := h.1
  unfold f_X5_addToRiggings
  obtain ⟨c', ⟨h3, -⟩, e⟩ := loop_ex (σ := Nat → Int32) (fun f i a => L_X5_addToRiggings_2 N (nI r) t (nI s) cl (fun u6 => (some u6)) f (nI i) a) (fun a => some a)
    (fun i a => (∀ j, j < i → a j = rgl r t ln cr j) ∧ ∀ j, i ≤ j → a j = cr j) s
    (fun f a ha => by simp only [L_X5_addToRiggings_2, tle (Nat.le_refl s) (show s < 2 ^ 31 by omega), ↓reduceIte])
    (fun f i a hi ha => by
      obtain ⟨a1, a2, a3, a4, a5⟩ := h.2.1 i hi
      refine ⟨upd a i (rgl r t ln cr i), ?_, fun j hj => ?_, fun j hj => ?_⟩
      · simp only [L_X5_addToRiggings_2, nle hi (show s < 2 ^ 31 by omega), n240 (show i < 240 by omega), ↓reduceIte, inb_t (show i < 240 by omega) (by decide : 240 < 2 ^ 31), ck_t, nI_clamp (show i < 2 ^ 31 by omega), nI1, a3, ha.2 i (Nat.le_refl i), mnI_eq (show r < 1000 by omega) (show ln i < 1000 by omega), rgl]
      · by_cases e : j = i
        · subst e; exact upd_s
        · rw [upd_n e]; exact ha.1 j (by omega)
      · rw [upd_n (by omega)]; exact ha.2 j (by omega))
    s 0 N cr (by omega) (by omega) ⟨fun j hj => by omega, fun _ _ => rfl⟩
  exact ⟨c', e, h3⟩
theorem chave (N : Nat) (hN : 25000 ≤ N) {s : Nat} {ln : Nat → Nat} {cl cr cS ml mr : Nat → Int32} (h : Str s ln cl cr cS ml mr) : f_X5_haveRoomBehind N 240 (nI s) cl cr cS = some (bI (al (fun i => decide (cr i ≤ rmf ln s 240 (ln i))) s)) := by
  have hs := h.1
  have key : ∀ (j i f : Nat), i + j = s → j < f → L_X5_haveRoomBehind_2 N 240 (nI s) cl cr cS (fun _ => (some (1 : Int32))) f (nI i) = some (bI (alf (fun i => decide (cr i ≤ rmf ln s 240 (ln i))) i j)) := by
    intro j
    induction j with
    | zero =>
      intro i f hi hf
      obtain ⟨f, rfl⟩ : ∃ z, f = z + 1 := ⟨f - 1, by omega⟩
      obtain rfl : i = s := by omega
      simp only [L_X5_haveRoomBehind_2, tle (Nat.le_refl i) (show i < 2 ^ 31 by omega), ↓reduceIte, alf, bI_t]
    | succ j ih =>
      intro i f hi hf
      obtain ⟨f, rfl⟩ : ∃ z, f = z + 1 := ⟨f - 1, by omega⟩
      obtain ⟨a1, a2, a3, a4, a5⟩ := h.2.1 i (by omega)
      simp only [L_X5_haveRoomBehind_2, nle (show i < s by omega) (show s < 2 ^ 31 by omega), n240 (show i < 240 by omega), ↓reduceIte, inb_t (show i < 240 by omega) (by decide : 240 < 2 ^ 31), ck_t, nI_clamp (show i < 2 ^ 31 by omega), nI1, a3, roomL a2, bd1_t, h.2.2 _ a2, alf]
      show (if cr i ≤ rmf ln s 240 (ln i) then _ else _) = _
      by_cases c : cr i ≤ rmf ln s 240 (ln i)
      · rw [if_pos c, ih (i + 1) f (by omega) (by omega)]
        simp [c]
      · rw [if_neg c]
        simp [c]
        rfl
  unfold f_X5_haveRoomBehind
  have e := key s 0 N (by omega) (by omega)
  have e2 := al_alf (fun i => decide (cr i ≤ rmf ln s 240 (ln i))) s 0
  rw [Nat.zero_add, show al (fun i => decide (cr i ≤ rmf ln s 240 (ln i))) 0 = true from rfl, Bool.true_and] at e2
  rw [e2]
  exact e
theorem mleap (N : Nat) (hN : 25000 ≤ N) {s r : Nat} (hr : r ≤ 50) (t : Int32) {ln : Nat → Nat} {cl cr cS ml mr : Nat → Int32} (h : Str s ln cl cr cS ml mr) (K : Int32 → (Nat → Int32) → Option (Int32 × Int32 × Int32 × (Nat → Int32) × (Nat → Int32) × (Nat → Int32) × (Nat → Int32))) :
    ∃ m', L_X7_leap_38 N (nI r) t (nI s) ml K N 1 0 mr = K (bI (al (fun i => decide (rgl r t ln cr i ≤ rmf ln s 240 (ln i))) s)) m' ∧ ∀ i, i < s → m' i = rgl r t ln cr i := by
  have hs := h.1
  obtain ⟨⟨x, m'⟩, ⟨h0, h3, -⟩, e⟩ := loop_ex (σ := Int32 × (Nat → Int32)) (fun f i a => L_X7_leap_38 N (nI r) t (nI s) ml K f a.1 (nI i) a.2) (fun a => K a.1 a.2)
    (fun i a => a.1 = bI (al (fun i => decide (rgl r t ln cr i ≤ rmf ln s 240 (ln i))) i) ∧ (∀ j, j < i → a.2 j = rgl r t ln cr j) ∧ ∀ j, i ≤ j → a.2 j = mr j) s
    (fun f a ha => by simp only [L_X7_leap_38, tle (Nat.le_refl s) (show s < 2 ^ 31 by omega), ↓reduceIte])
    (fun f i a hi ha => by
      obtain ⟨x, m⟩ := a
      obtain ⟨q1, q2, q3⟩ := ha
      simp only at q1 q2 q3
      subst q1
      obtain ⟨a1, a2, a3, a4, a5⟩ := h.2.1 i hi
      refine ⟨(bI (al (fun i => decide (rgl r t ln cr i ≤ rmf ln s 240 (ln i))) (i + 1)), upd m i (rgl r t ln cr i)), ?_, rfl, fun j hj => ?_, fun j hj => ?_⟩
      · have em : m i = cr i := by rw [q3 i (Nat.le_refl i), a5]
        have hro : f_X7_room N (nI (ln i)) 240 (nI s) ml = some (rmf ln s 240 (ln i)) := mroom N hN hs a2 240 ln ml (fun z hz => ⟨(h.2.1 z hz).2.1, (h.2.1 z hz).2.2.2.1⟩)
        simp only [L_X7_leap_38, nle hi (show s < 2 ^ 31 by omega), ↓reduceIte, inb_t (show i < 241 by omega) (by decide : 241 < 2 ^ 31), ck_t, nI_clamp (show i < 2 ^ 31 by omega), nI1, a4, hro, bd1_t, upd_s, em, and0, and1]
        have fin : ∀ (v : Int32), v = rgl r t ln cr i → (if rmf ln s 240 (ln i) < v then L_X7_leap_38 N (nI r) t (nI s) ml K f (bI (al (fun i => decide (rgl r t ln cr i ≤ rmf ln s 240 (ln i))) i && false)) (nI (i + 1)) (upd m i v) else L_X7_leap_38 N (nI r) t (nI s) ml K f (bI (al (fun i => decide (rgl r t ln cr i ≤ rmf ln s 240 (ln i))) i && true)) (nI (i + 1)) (upd m i v)) = L_X7_leap_38 N (nI r) t (nI s) ml K f (bI (al (fun i => decide (rgl r t ln cr i ≤ rmf ln s 240 (ln i))) (i + 1))) (nI (i + 1)) (upd m i (rgl r t ln cr i)) := by
          intro v hv
          subst hv
          simp only [al]
          by_cases c : rgl r t ln cr i ≤ rmf ln s 240 (ln i)
          · rw [if_neg (fun hlt => (fa_of_lt hlt).2.1 c)]
            simp only [c, decide_true]
          · rw [if_pos (fa_of_nle c)]
            simp only [c, decide_false]
        by_cases c : ln i ≤ r
        · rw [if_pos (nI_le c (by omega))]
          exact fin _ (by unfold rgl; rw [show min r (ln i) = ln i by omega])
        · rw [if_neg (nI_ge (by omega) (by omega))]
          exact fin _ (by unfold rgl; rw [show min r (ln i) = r by omega])
      · by_cases ej : j = i
        · subst ej; exact upd_s
        · dsimp only; rw [upd_n ej]; exact q2 j (by omega)
      · dsimp only; rw [upd_n (by omega)]; exact q3 j (by omega))
    s 0 N (1, mr) (by omega) (by omega) ⟨rfl, fun j hj => by omega, fun _ _ => rfl⟩
  simp only at h0 h3 e
  rw [h0] at e
  exact ⟨m', e, h3⟩
theorem al_cong {p q : Nat → Bool} : ∀ {n : Nat}, (∀ i, i < n → p i = q i) → al p n = al q n
  | 0, _ => rfl
  | n + 1, h => by simp only [al]; rw [al_cong (fun i hi => h i (by omega)), h n (by omega)]
theorem pu_leap (N : Nat) (hN : 25000 ≤ N) (a1 a2 : Int32) (mv : Int32) (cb : (Nat → Int32)) (cm : (Nat → Int32)) (es : Int32) (eb : Int32) (el : (Nat → Int32)) (er : (Nat → Int32)) (eS : (Nat → Int32)) (my : Int32) (mb : (Nat → Int32)) (mn : (Nat → Int32)) (mL : (Nat → Int32)) (mR : (Nat → Int32)) (hB : RB cb mb) : ∃ (r : Int32) (mv' : Int32) (cb' : (Nat → Int32)) (cm' : (Nat → Int32)) (es' : Int32) (eb' : Int32) (el' : (Nat → Int32)) (er' : (Nat → Int32)) (eS' : (Nat → Int32)) (my' : Int32) (mb' : (Nat → Int32)) (mn' : (Nat → Int32)) (mL' : (Nat → Int32)) (mR' : (Nat → Int32)), f_X6_leap N a1 a2 mv cb cm es eb el er eS = some (r, mv', cb', cm', es', eb', el', er', eS') ∧ f_X7_leap N a1 a2 mv my mb mn mL mR = some (r, mv', my', mb', mn', mL', mR') ∧ RB cb' mb' := by
  obtain ⟨B, b1, b2⟩ := id hB
  unfold f_X6_leap f_X7_leap
  rcases room_or a1 with ⟨r, r1, r2, rfl, hi⟩ | hi
  · simp only [(hi N).1, (hi N).2, bd1_t, i10, ↓reduceIte]
    by_cases c0 : a2 < -1000
    · refine ⟨-2, mv, cb, cm, es, eb, el, er, eS, my, mb, mn, mL, mR, by rw [if_pos c0], ?_, hB⟩
      rw [show f_X7_in N a2 (-1000) 1000 = some 0 by unfold f_X7_in; rw [if_pos c0], bd1_t, if_pos rfl]
    · by_cases c1 : a2 ≤ 1000
      · rw [if_neg c0, if_pos c1, show f_X7_in N a2 (-1000) 1000 = some 1 by unfold f_X7_in; rw [if_neg c0, if_neg (fun hlt => (fa_of_lt hlt).2.1 c1)], bd1_t, if_neg (by decide)]
        obtain ⟨s, ln, cl, cr, cS, ml, mr, e1, e2, h, h4⟩ := reads N hN (n := 240) (Nat.le_refl _) cb mb B b1 b2 es eb el er eS my mL mR
        have e1 : f_X5_readFrom N 240 es eb el er eS cb = some (nI s, nI 240, cl, cr, cS) := e1
        have e2 : f_X7_reads N 240 my mb mL mR = some (nI s, ml, mr) := e2
        rw [e1, e2, bd5_t, bd3_t]
        obtain ⟨c', e3, g3⟩ := cadd N hN r2 a2 h
        rw [e3, bd1_t]
        have key : ∀ m' : Nat → Int32, (∀ i, i < s → m' i = rgl r a2 ln cr i) → Str s ln cl c' cS ml m' := fun m' hm => ⟨h.1, fun i hi => by obtain ⟨q1, q2, q3, q4, q5⟩ := h.2.1 i hi; exact ⟨q1, q2, q3, q4, by rw [hm i hi, g3 i hi]⟩, h.2.2⟩
        obtain ⟨m', e4, g4⟩ := mleap N hN r2 a2 h (fun y28 u29 => (if y28 = (0 : Int32) then (some ((-4 : Int32), mv, nI s, mb, mn, ml, u29)) else (bd5 (f_X7_makes N (nI s) mn ml u29) (fun r31 u32 u33 u34 u35 => (if r31 = (0 : Int32) then (some ((-4 : Int32), mv, u32, mb, u33, u34, u35)) else (bd3 (f_X7_takes N mv mb u33) (fun r38 u39 u40 => (some (r38, u39, u32, u40, u33, u34, u35)))))))))
        have h2 := key m' g4
        rw [e4, chave N hN h2, bd1_t, al_cong (q := fun i => decide (rgl r a2 ln cr i ≤ rmf ln s 240 (ln i))) (fun i hi => by rw [g3 i hi])]
        rcases ft (al (fun i => decide (rgl r a2 ln cr i ≤ rmf ln s 240 (ln i))) s) with q | q
        · rw [q, bI_f, if_pos rfl, if_pos rfl]
          exact ⟨_, _, _, _, _, _, _, _, _, _, _, _, _, _, rfl, rfl, hB⟩
        · rw [q, bI_t, if_neg (by decide), if_neg (by decide)]
          unfold f_X5_makeInto f_X7_makes
          obtain ⟨s', cl', cr', cS', ml', mr', cm', mn', k1, k2, k3, k4⟩ := mk_loop N hN (fun u10 u11 u12 u13 u14 => (if u10 = (0 : Int32) then (some ((1 : Int32), u10, u11, u12, u13, u14)) else (some ((0 : Int32), u10, u11, u12, u13, u14)))) (fun u33 u34 u35 u36 => (if u33 = (0 : Int32) then (some ((1 : Int32), u33, u34, u35, u36)) else (some ((0 : Int32), u33, u34, u35, u36)))) 240 N N s ln cl c' cS ml m' cm mn (Nat.le_refl _) (by omega) (by omega) h2 (fun i hi hi2 => by omega)
          have k1 : L_X5_makeInto_4 N (fun u10 u11 u12 u13 u14 => (if u10 = (0 : Int32) then (some ((1 : Int32), u10, u11, u12, u13, u14)) else (some ((0 : Int32), u10, u11, u12, u13, u14)))) N 239 (nI s) cl c' cS cm = _ := k1
          have k2 : L_X7_makes_4 N (fun u33 u34 u35 u36 => (if u33 = (0 : Int32) then (some ((1 : Int32), u33, u34, u35, u36)) else (some ((0 : Int32), u33, u34, u35, u36)))) N 239 (nI s) mn ml m' = _ := k2
          rw [k1, k2]
          by_cases c2 : s' = 0
          · subst c2
            simp only [show (nI 0 = (0 : Int32)) = True from eq_true rfl, ↓reduceIte, bd6_t, bd5_t, i10]
            have hC1 : ∀ k, k < 240 → cm' k = bI (decide (cm' k = 1)) := fun k hk => by
              obtain ⟨g, w1, w2⟩ := k4 k hk
              rw [w1]; cases g <;> rfl
            have hC2 : ∀ k, k < 240 → mn' k = bI (decide (cm' k = 1)) := fun k hk => by
              obtain ⟨g, w1, w2⟩ := k4 k hk
              rw [w1, w2]; cases g <;> rfl
            obtain ⟨cb', e5, g5⟩ := cbecome N hN cb cm' B (fun k => decide (cm' k = 1)) b1 hC1
            obtain ⟨mb', e6, g6⟩ := mtakes N hN mv mb mn' B (fun k => decide (cm' k = 1)) b2 hC2
            rw [e5, e6, bd2_t, bd3_t]
            exact ⟨_, _, _, _, _, _, _, _, _, _, _, _, _, _, rfl, rfl, ⟨_, g5, g6⟩⟩
          · have c3 : ¬ nI s' = 0 := nI_ne0 (by omega) (by omega)
            simp only [eq_false c3, ↓reduceIte, bd6_t, bd5_t]
            exact ⟨_, _, _, _, _, _, _, _, _, _, _, _, _, _, rfl, rfl, hB⟩
      · refine ⟨-2, mv, cb, cm, es, eb, el, er, eS, my, mb, mn, mL, mR, by rw [if_neg c0, if_neg c1], ?_, hB⟩
        rw [show f_X7_in N a2 (-1000) 1000 = some 0 by unfold f_X7_in; rw [if_neg c0, if_pos (fa_of_nle c1)], bd1_t, if_pos rfl]
  · refine ⟨-2, mv, cb, cm, es, eb, el, er, eS, my, mb, mn, mL, mR, ?_, ?_, hB⟩
    · rw [(hi N).1, bd1_t, if_pos rfl]
    · rw [(hi N).2, bd1_t, if_pos rfl]
