/-! rings: the starts that are seen, and both counts -/
def SB (sn : Nat → Int64) (Q : Nat → Bool) : Prop := ∀ w, w < 64 → ∃ W : Nat, W < 2 ^ 64 ∧ sn w = lN W ∧ ∀ i, i < 64 → W.testBit i = Q (64 * w + i)
theorem q64a : ∀ q, q < 64 → ∀ s, s < 64 → ushI (nI (64 * q + s)) 6 = nI q ∧ nI (64 * q + s) &&& 63 = nI s ∧ (nI (64 * q + s)).toInt64 = lN (64 * q + s) := by decide +kernel
theorem q64 {x : Nat} (h : x < 4096) : ushI (nI x) 6 = nI (x / 64) ∧ nI x &&& 63 = nI (x % 64) ∧ (nI x).toInt64 = lN x := by
  have := q64a (x / 64) (by omega) (x % 64) (by omega)
  rw [show 64 * (x / 64) + x % 64 = x by omega] at this
  exact this
theorem n64 {k : Nat} (h : k < 64) : ((64 : Int32) ≤ nI k) = False := eq_false (nI_ge (b := 64) h (by decide))
theorem csee (N : Nat) {x : Nat} (h : x < 4096) {sn : Nat → Int64} {Q : Nat → Bool} (hq : SB sn Q) : ∃ sn', f_X2_see N (nI x) sn = some sn' ∧ SB sn' (fun k => if k = x then true else Q k) := by
  have hw : x / 64 < 64 := by omega
  have hk : x % 64 < 64 := by omega
  obtain ⟨W, w1, w2, w3⟩ := hq (x / 64) hw
  have e : sn (x / 64) ||| shlL 1 (nI (x % 64)) = lN (W ||| 2 ^ (x % 64)) := by
    unfold shlL
    rw [show (1 : Int64) = lN 1 from rfl, wb_shl 1 hk, Nat.one_mul, w2, fb_orL]
  refine ⟨vp_updL sn (x / 64) (lN (W ||| 2 ^ (x % 64))), ?_, fun w hw2 => ?_⟩
  · unfold f_X2_see
    rw [(q64 h).1, (q64 h).2.1]
    simp only [n64 hw, ↓reduceIte, inb_t hw (show 64 < 2 ^ 31 by decide), ck_t, nI_clamp (show x / 64 < 2 ^ 31 by omega), e]
  · by_cases c : w = x / 64
    · subst c
      refine ⟨W ||| 2 ^ (x % 64), Nat.or_lt_two_pow w1 (Nat.pow_lt_pow_right (by omega) hk), pk_uLs, fun i hi => ?_⟩
      rw [Nat.testBit_or, Nat.testBit_two_pow, w3 i hi]
      by_cases ci : x % 64 = i
      · have : 64 * (x / 64) + i = x := by omega
        simp [ci, this]
      · have : ¬ 64 * (x / 64) + i = x := by omega
        simp [ci, this]
    · obtain ⟨V, v1, v2, v3⟩ := hq w hw2
      refine ⟨V, v1, by rw [pk_uLn c]; exact v2, fun i hi => ?_⟩
      have : ¬ 64 * w + i = x := by omega
      simp [this, v3 i hi]
theorem cseen (N : Nat) {x : Nat} (h : x < 4096) {sn : Nat → Int64} {Q : Nat → Bool} (hq : SB sn Q) : f_X2_isSeen N (nI x) sn = some (bI (Q x)) := by
  have hw : x / 64 < 64 := by omega
  have hk : x % 64 < 64 := by omega
  obtain ⟨W, w1, w2, w3⟩ := hq (x / 64) hw
  have e := w3 (x % 64) hk
  rw [show 64 * (x / 64) + x % 64 = x by omega, Nat.testBit_eq_decide_div_mod_eq] at e
  unfold f_X2_isSeen
  rw [(q64 h).1, (q64 h).2.1]
  simp only [n64 hw, ↓reduceIte, inb_t hw (show 64 < 2 ^ 31 by decide), ck_t, nI_clamp (show x / 64 < 2 ^ 31 by omega), w2, lgz]
  unfold ushL
  rw [wb_bit w1 hk]
  by_cases c : W / 2 ^ (x % 64) % 2 = 1
  · rw [c, if_neg (by decide)]
    rw [← e]; simp [c, bI]
  · have c0 : W / 2 ^ (x % 64) % 2 = 0 := by omega
    rw [c0, if_pos (show lN 0 = 0 from rfl)]
    rw [← e]; simp [c0, bI]
theorem cforget (N : Nat) (hN : 25000 ≤ N) (sn : Nat → Int64) : ∃ sn', f_X2_forget N sn = some sn' ∧ SB sn' (fun _ => false) := by
  unfold f_X2_forget
  obtain ⟨s', h, e⟩ := loop_ex (σ := Nat → Int64) (fun j k a => L_X2_forget_2 N (fun u3 => (some u3)) j (nI k) a) (fun a => some a)
    (fun k a => ∀ w, w < k → a w = 0) 64
    (fun j a h => by simp only [L_X2_forget_2, show ((64 : Int32) ≤ nI 64) = True from eq_true (by decide), ↓reduceIte])
    (fun j k a hk h => by
      refine ⟨vp_updL a k 0, ?_, fun w hw => ?_⟩
      · simp only [L_X2_forget_2, n64 hk, ↓reduceIte, inb_t hk (show 64 < 2 ^ 31 by decide), ck_t, nI_clamp (show k < 2 ^ 31 by omega), nI1]
      · by_cases c : w = k
        · subst c; exact pk_uLs
        · rw [pk_uLn c]; exact h w (by omega))
    64 0 N sn (by omega) (by omega) (fun _ h => by omega)
  refine ⟨s', e, fun w hw => ⟨0, by decide, h w hw, fun i _ => Nat.zero_testBit i⟩⟩
/-- what is seen when k turns of b have been gone through -/
def mkd (r n b : Nat) (Q : Nat → Bool) : Nat → Nat → Bool
  | 0 => Q
  | k + 1 => fun x => if x = itn r n b (k + 1) then true else mkd r n b Q k x
theorem mkd_iff {r n b : Nat} {Q : Nat → Bool} : ∀ {k x : Nat}, mkd r n b Q k x = true ↔ Q x = true ∨ ∃ j, 1 ≤ j ∧ j ≤ k ∧ x = itn r n b j
  | 0, x => ⟨fun h => Or.inl h, fun h => by
      rcases h with h | ⟨j, h1, h2, _⟩
      · exact h
      · omega⟩
  | k + 1, x => by
    have ih := mkd_iff (r := r) (n := n) (b := b) (Q := Q) (k := k) (x := x)
    simp only [mkd]
    constructor
    · intro h
      split at h
      · rename_i c
        exact Or.inr ⟨k + 1, by omega, by omega, c⟩
      · rcases ih.mp h with h | ⟨j, h1, h2, h3⟩
        · exact Or.inl h
        · exact Or.inr ⟨j, h1, by omega, h3⟩
    · intro h
      split
      · rfl
      · rename_i c
        apply ih.mpr
        rcases h with h | ⟨j, h1, h2, h3⟩
        · exact Or.inl h
        · refine Or.inr ⟨j, h1, ?_, h3⟩
          by_cases e : j = k + 1
          · subst e; exact absurd h3 c
          · omega
theorem p12 {n x : Nat} (hn : n ≤ 12) (h : x < 2 ^ n) : x < 4096 := Nat.lt_of_lt_of_le h (show 2 ^ n ≤ 2 ^ 12 from Nat.pow_le_pow_right (by decide) hn)
theorem p12' {n x : Nat} (hn : n ≤ 12) (h : x ≤ 2 ^ n) : x ≤ 4096 := Nat.le_trans h (show 2 ^ n ≤ 2 ^ 12 from Nat.pow_le_pow_right (by decide) hn)
theorem cgo (N : Nat) (hN : 25000 ≤ N) {r n m b p : Nat} (hr : r ≤ 50) (hn : n ≤ 12) (hm : 2 * m < n) (hb : St n m b) (hp2 : p ≤ 2 ^ n) (h1 : itn r n b p = b) (h2 : ∀ i, 1 ≤ i → i < p → itn r n b i ≠ b) (Q : Nat → Bool) (K : Int64 → Int64 → Int32 → (Nat → Int64) → Option (Int32 × Int32 × Int64 × Int64 × Int32 × (Nat → Int64))) :
    ∀ (j t f : Nat) (mk : Int64) (ch : Int32) (sn : Nat → Int64), t + j + 1 = p → j < f → SB sn (mkd r n b Q t) →
      ∃ u1 u2 u3 sn', L_X2_goThrough_13 N (nI b) (nI r) (nI n) K f (nI (t + 1)) (lN (itn r n b t)) mk ch sn = some (nI p, nI n, u1, u2, u3, sn') ∧ SB sn' (mkd r n b Q p) := by
  intro j
  induction j with
  | zero =>
    intro t f mk ch sn ht hf hs
    obtain ⟨f, rfl⟩ : ∃ z, f = z + 1 := ⟨f - 1, by omega⟩
    obtain rfl : p = t + 1 := by omega
    have hl := p12' hn hp2
    have hi := itn_St (r := r) hm hb
    obtain ⟨c', e1⟩ := cturn N hN hr (show n ≤ 40 by omega) (hi t).1 mk ch
    obtain ⟨sn', e2, s2⟩ := csee N (p12 hn (hi (t + 1)).1) hs
    rw [L_X2_goThrough_13]
    rw [show itn r n b (t + 1) = tn r n (itn r n b t) from rfl] at e2 h1
    rw [h1] at e2
    simp only [n20k (show t + 1 ≤ 20000 by omega), ↓reduceIte, e1, bd4_t, lN_i, e2, bd1_t, lgz, (q64 (p12 hn hb.1)).2.2, h1]
    exact ⟨_, _, _, _, rfl, s2⟩
  | succ j ih =>
    intro t f mk ch sn ht hf hs
    obtain ⟨f, rfl⟩ : ∃ z, f = z + 1 := ⟨f - 1, by omega⟩
    have hl := p12' hn hp2
    have hi := itn_St (r := r) hm hb
    obtain ⟨c', e1⟩ := cturn N hN hr (show n ≤ 40 by omega) (hi t).1 mk ch
    obtain ⟨sn', e2, s2⟩ := csee N (p12 hn (hi (t + 1)).1) hs
    have hne := h2 (t + 1) (by omega) (by omega)
    rw [L_X2_goThrough_13]
    rw [show itn r n b (t + 1) = tn r n (itn r n b t) from rfl] at e2
    have q1 := p12 hn (hi (t + 1)).1
    have q2 := p12 hn hb.1
    simp only [n20k (show t + 1 ≤ 20000 by omega), ↓reduceIte, e1, bd4_t, lN_i, e2, bd1_t, lgz, (q64 (p12 hn hb.1)).2.2, nI1]
    rw [if_neg (show ¬ lN (tn r n (itn r n b t)) = lN b from fun e => hne (by
      rw [pk_lEQ (by exact Nat.lt_trans q1 (by decide)) (by omega)] at e
      exact e))]
    exact ih (t + 1) f _ _ sn' (by omega) (by omega) s2
theorem cgoThrough (N : Nat) (hN : 25000 ≤ N) {r n m b p : Nat} (hr : r ≤ 50) (hn : n ≤ 12) (hm : 2 * m < n) (hb : St n m b) (hp1 : 1 ≤ p) (hp2 : p ≤ 2 ^ n) (h1 : itn r n b p = b) (h2 : ∀ i, 1 ≤ i → i < p → itn r n b i ≠ b) (Q : Nat → Bool) (un : Int32) (ub um : Int64) (uc : Int32) (sn : Nat → Int64) (hq : SB sn Q) :
    ∃ u1 u2 u3 sn', f_X2_goThrough N (nI n) (nI b) (nI r) un ub um uc sn = some (nI p, nI n, u1, u2, u3, sn') ∧ SB sn' (mkd r n b Q p) := by
  unfold f_X2_goThrough f_X1_become
  rw [bd2_t, (q64 (p12 hn hb.1)).2.2]
  have := p12' hn hp2
  exact cgo N hN hr hn hm hb hp2 h1 h2 Q _ (p - 1) 0 N um uc sn (by omega) (by omega) hq
/-- how many of the seen have this period -/
def Cq (r n : Nat) (q : Int32) (Q : Nat → Bool) : Nat := fb_ct (fun x => Q x && decide (Pr r n x = q)) (2 ^ n)
theorem Cq_mark {r n m b p : Nat} (q : Int32) {Q : Nat → Bool} (hm : 2 * m < n) (hb : St n m b) (h2 : ∀ i, 1 ≤ i → i < p → itn r n b i ≠ b) (hq : ∀ j, Q (itn r n b j) = false) : ∀ k, k ≤ p → Cq r n q (mkd r n b Q k) = Cq r n q Q + if Pr r n b = q then k else 0
  | 0, _ => by simp [mkd]
  | k + 1, hk => by
    have ih := Cq_mark q hm hb h2 hq k (by omega)
    have hi := (itn_St (r := r) hm hb (k + 1)).1
    have hf : mkd r n b Q k (itn r n b (k + 1)) = false := by
      rcases ft (mkd r n b Q k (itn r n b (k + 1))) with c | c
      · exact c
      · exfalso
        rcases mkd_iff.mp c with c | ⟨j, j1, j2, j3⟩
        · rw [hq] at c; exact absurd c (by decide)
        · exact itn_ne hm hb h2 j1 (show j < k + 1 by omega) hk j3.symm
    have u := fb_ct_upd (fun x => mkd r n b Q k x && decide (Pr r n x = q)) (decide (Pr r n b = q)) hi
    rw [hf] at u
    simp only [Bool.false_and, Bool.false_eq_true, ↓reduceIte, Nat.add_zero, decide_eq_true_eq] at u
    have e : Cq r n q (mkd r n b Q (k + 1)) = fb_ct (fun x => if x = itn r n b (k + 1) then decide (Pr r n b = q) else mkd r n b Q k x && decide (Pr r n x = q)) (2 ^ n) := by
      unfold Cq
      refine fb_ct_cong (fun x hx => ?_)
      simp only [mkd]
      by_cases c : x = itn r n b (k + 1)
      · simp only [c, ↓reduceIte, Bool.true_and, Pr_it hm hb]
      · simp only [c, ↓reduceIte]
    rw [e, u]
    unfold Cq at ih ⊢
    rw [ih]
    by_cases c : Pr r n b = q
    · simp only [c, ↓reduceIte]; omega
    · simp only [c, ↓reduceIte]
theorem mkd_closed {r n m b p : Nat} {Q : Nat → Bool} (hm : 2 * m < n) (hb : St n m b) (hp1 : 1 ≤ p) (h1 : itn r n b p = b) (hc : ∀ x, St n m x → (Q x = true ↔ Q (tn r n x) = true)) : ∀ x, St n m x → (mkd r n b Q p x = true ↔ mkd r n b Q p (tn r n x) = true) := by
  intro x hx
  rw [mkd_iff, mkd_iff]
  constructor
  · intro h
    rcases h with h | ⟨j, j1, j2, rfl⟩
    · exact Or.inl ((hc x hx).mp h)
    · by_cases c : j = p
      · subst c
        refine Or.inr ⟨1, by omega, hp1, ?_⟩
        rw [h1]; rfl
      · exact Or.inr ⟨j + 1, by omega, by omega, rfl⟩
  · intro h
    rcases h with h | ⟨j, j1, j2, e⟩
    · exact Or.inl ((hc x hx).mpr h)
    · obtain ⟨j, rfl⟩ : ∃ z, j = z + 1 := ⟨j - 1, by omega⟩
      have e := tn_inj hm hx (itn_St hm hb j) e
      by_cases c : j = 0
      · subst c
        exact Or.inr ⟨p, hp1, Nat.le_refl p, by rw [h1]; exact e⟩
      · exact Or.inr ⟨j, by omega, by omega, e⟩
theorem out_it {r n m b : Nat} {Q : Nat → Bool} (hm : 2 * m < n) (hb : St n m b) (hc : ∀ x, St n m x → (Q x = true ↔ Q (tn r n x) = true)) (hq : Q b = false) : ∀ j, Q (itn r n b j) = false
  | 0 => hq
  | j + 1 => by
    have ih := out_it hm hb hc hq j
    rcases ft (Q (itn r n b (j + 1))) with c | c
    · exact c
    · exfalso
      have := (hc _ (itn_St hm hb j)).mpr c
      rw [ih] at this
      exact absurd this (by decide)
theorem pw12 : ∀ n, n ≤ 12 → (1 : Int32) <<< (nI n &&& 31) = nI (2 ^ n) := by decide +kernel
theorem ccountAll (N : Nat) (hN : 25000 ≤ N) {n m : Nat} (hn : n ≤ 12) (hm : m ≤ 12) : f_X2_countAll N (nI n) (nI m) = some (nI (fb_ct (fun x => decide (cnt (fun k => x.testBit k) n = m)) (2 ^ n))) := by
  unfold f_X2_countAll
  have hl := p12' hn (Nat.le_refl (2 ^ n))
  obtain ⟨x, h3, e⟩ := loop_ex (σ := Int32) (fun j k a => L_X2_countAll_5 N (nI n) (nI m) (fun y5 => (some y5)) j a (nI k)) (fun a => some a)
    (fun k a => a = nI (fb_ct (fun x => decide (cnt (fun k => x.testBit k) n = m)) k)) (2 ^ n)
    (fun j a h => by simp only [L_X2_countAll_5, pw12 n hn, tle (Nat.le_refl (2 ^ n)) (show 2 ^ n < 2 ^ 31 by omega), ↓reduceIte])
    (fun j k a hk h => by
      subst h
      refine ⟨nI (fb_ct (fun x => decide (cnt (fun k => x.testBit k) n = m)) (k + 1)), ?_, rfl⟩
      have hc := cnt_le (fun i => k.testBit i) n
      simp only [L_X2_countAll_5, pw12 n hn, nle hk (show 2 ^ n < 2 ^ 31 by omega), ↓reduceIte, bitI N k (p12 hn hk), bd1_t, cnt_tb hk hn, nI1, fb_ct_succ]
      by_cases c : cnt (fun i => k.testBit i) n = m
      · simp [c]
      · rw [if_neg (fun e => c ((nI_eq (by omega) (by omega)).mp e))]
        simp [c])
    (2 ^ n) 0 N 0 (by omega) (by omega) rfl
  rw [← h3]
  exact e
theorem Pr_nI {r n m b p : Nat} (hn : n ≤ 12) (hm : 2 * m < n) (hb : St n m b) (hp1 : 1 ≤ p) (hp2 : p ≤ 2 ^ n) (h1 : itn r n b p = b) (h2 : ∀ i, 1 ≤ i → i < p → itn r n b i ≠ b) : Pr r n b = nI p := by
  have := p12' hn hp2
  exact prd_p hp1 (by omega) h1 h2 20000 0 (by omega) (by omega)
/-- the state of the class's count -/
def CI (r n m : Nat) (q : Int32) (k : Nat) (x5 : Int32) (sn : Nat → Int64) : Prop := ∃ Q : Nat → Bool, SB sn Q ∧ (∀ x, Q x = true → St n m x) ∧ (∀ x, St n m x → (Q x = true ↔ Q (tn r n x) = true)) ∧ (∀ x, x < k → St n m x → Q x = true) ∧ x5 = nI (Cq r n q Q)
theorem ccount (N : Nat) (hN : 25000 ≤ N) {r n m : Nat} (hr : r ≤ 50) (hn : n ≤ 12) (hm : 2 * m < n) (q : Int32) (un : Int32) (ub um : Int64) (uc : Int32) (sn : Nat → Int64) :
    ∃ u0 u1 u2 u3 sn', f_X2_countWithPeriod N (nI n) (nI m) (nI r) q un ub um uc sn = some (nI (fb_ct (fun x => decide (cnt (fun k => x.testBit k) n = m) && decide (Pr r n x = q)) (2 ^ n)), u0, u1, u2, u3, sn') := by
  unfold f_X2_countWithPeriod
  have hl := p12' hn (Nat.le_refl (2 ^ n))
  obtain ⟨s0, e0, z0⟩ := cforget N hN sn
  rw [e0, bd1_t]
  obtain ⟨⟨x5, u0, u1, u2, u3, sn'⟩, ⟨Q, a1, a2, a3, a4, a5⟩, e⟩ := loop_ex (σ := Int32 × Int32 × Int64 × Int64 × Int32 × (Nat → Int64)) (fun j k a => L_X2_countWithPeriod_10 N (nI n) (nI m) (nI r) q (fun y18 u19 u20 u21 u22 u23 => (some (y18, u19, u20, u21, u22, u23))) j a.1 (nI k) a.2.1 a.2.2.1 a.2.2.2.1 a.2.2.2.2.1 a.2.2.2.2.2) (fun a => some a)
    (fun k a => CI r n m q k a.1 a.2.2.2.2.2) (2 ^ n)
    (fun j a h => by simp only [L_X2_countWithPeriod_10, pw12 n hn, tle (Nat.le_refl (2 ^ n)) (show 2 ^ n < 2 ^ 31 by omega), ↓reduceIte])
    (fun j k a hk h => by
      obtain ⟨x5, v0, v1, v2, v3, s⟩ := a
      obtain ⟨Q, a1, a2, a3, a4, a5⟩ := h
      simp only at a1 a5
      have hc := cnt_le (fun i => k.testBit i) n
      simp only [L_X2_countWithPeriod_10, pw12 n hn, nle hk (show 2 ^ n < 2 ^ 31 by omega), ↓reduceIte, bitI N k (p12 hn hk), bd1_t, cnt_tb hk hn, nI1]
      by_cases c : cnt (fun i => k.testBit i) n = m
      · rw [if_pos (congrArg nI c), cseen N (p12 hn hk) a1, bd1_t]
        have hb : St n m k := ⟨hk, c⟩
        rcases ft (Q k) with g | g
        · rw [g, bI_f, if_pos rfl]
          obtain ⟨p, p1, p2, p3, p4⟩ := per_ex (r := r) hm hb
          obtain ⟨w1, w2, w3, s2, e2, z2⟩ := cgoThrough N hN hr hn hm hb p1 p2 p3 p4 Q v0 v1 v2 v3 s a1
          rw [e2, bd6_t]
          have hP := Pr_nI hn hm hb p1 p2 p3 p4
          have hC := Cq_mark q hm hb p4 (out_it hm hb a3 g) p (Nat.le_refl p)
          have hI : ∀ y, y = nI (Cq r n q (mkd r n k Q p)) → CI r n m q (k + 1) y s2 := by
            intro y hy
            refine ⟨mkd r n k Q p, z2, fun x hx => ?_, mkd_closed hm hb p1 p3 a3, fun x hx hs => ?_, hy⟩
            · rcases mkd_iff.mp hx with h | ⟨j, _, _, rfl⟩
              · exact a2 x h
              · exact itn_St hm hb j
            · apply mkd_iff.mpr
              by_cases c2 : x = k
              · exact Or.inr ⟨p, p1, Nat.le_refl p, by rw [p3]; exact c2⟩
              · exact Or.inl (a4 x (by omega) hs)
          by_cases c2 : nI p = q
          · rw [if_pos c2]
            refine ⟨(x5 + nI p, nI n, w1, w2, w3, s2), rfl, hI _ ?_⟩
            rw [hC, hP, if_pos c2, a5, nI_add]
          · rw [if_neg c2]
            refine ⟨(x5, nI n, w1, w2, w3, s2), rfl, hI _ ?_⟩
            rw [hC, hP, if_neg c2, a5, Nat.add_zero]
        · rw [g, bI_t, if_neg (by decide)]
          refine ⟨(x5, v0, v1, v2, v3, s), rfl, Q, a1, a2, a3, fun x hx hs => ?_, a5⟩
          by_cases c2 : x = k
          · rw [c2]; exact g
          · exact a4 x (by omega) hs
      · rw [if_neg (fun e => c ((nI_eq (by omega) (by omega)).mp e))]
        refine ⟨(x5, v0, v1, v2, v3, s), rfl, Q, a1, a2, a3, fun x hx hs => ?_, a5⟩
        by_cases c2 : x = k
        · subst c2; exact absurd hs.2 c
        · exact a4 x (by omega) hs)
    (2 ^ n) 0 N (0, un, ub, um, uc, s0) (by omega) (by omega) ⟨fun _ => false, z0, fun x h => absurd (show false = true from h) (by decide), fun x _ => Iff.rfl, fun x hx => absurd hx (by omega), by
      have : Cq r n q (fun _ => false) = 0 := fb_ct_zero.mpr (fun k _ => rfl)
      rw [this]; rfl⟩
  refine ⟨u0, u1, u2, u3, sn', ?_⟩
  simp only at a5 e
  rw [show fb_ct (fun x => decide (cnt (fun k => x.testBit k) n = m) && decide (Pr r n x = q)) (2 ^ n) = Cq r n q Q from fb_ct_cong (fun x hx => by
    congr 1
    by_cases c : cnt (fun k => x.testBit k) n = m
    · rw [a4 x hx ⟨hx, c⟩]; simp [c]
    · rcases ft (Q x) with g | g
      · rw [g]; simp [c]
      · exact absurd (a2 x g).2 c), ← a5]
  exact e
theorem sh12 : ∀ k, k < 12 → ((nI k &&& 31).toBitVec.smod 32).toNat = k := by decide +kernel
theorem bit12 {b k : Nat} (hb : b < 4096) (hk : k < 12) : (((nI b) >>> (nI k &&& 31)) &&& (1 : Int32) = 1) = (b.testBit k = true) := by
  rw [pk_shrN (by omega) _ k (sh12 k hk), show (1 : Int32) = nI (2 ^ 1 - 1) from rfl, fa_mask, Nat.testBit_eq_decide_div_mod_eq, Nat.pow_one]
  have h2 : b / 2 ^ k % 2 < 2 := Nat.mod_lt _ (by omega)
  by_cases c : b / 2 ^ k % 2 = 1
  · rw [c]; simp
  · rw [show b / 2 ^ k % 2 = 0 by omega]; simp
    decide
theorem mfill (N : Nat) (hN : 25000 ≤ N) {n b : Nat} (hn : n ≤ 12) (hb : b < 2 ^ n) (mr : Nat → Int32) (K : Int32 → (Nat → Int32) → Option (Int32 × Int32 × (Nat → Int32) × (Nat → Int32) × (Nat → Int32))) :
    ∃ m', L_X7_rings_105 N (nI n) (nI b) K N 0 0 mr = K (nI (cnt (fun k => b.testBit k) n)) m' ∧ (∀ k, k < n → m' k = bI (b.testBit k)) := by
  obtain ⟨⟨x, m'⟩, ⟨h1, h2⟩, e⟩ := loop_ex (σ := Int32 × (Nat → Int32)) (fun j k a => L_X7_rings_105 N (nI n) (nI b) K j a.1 (nI k) a.2) (fun a => K a.1 a.2)
    (fun k a => a.1 = nI (cnt (fun k => b.testBit k) k) ∧ ∀ j, j < k → a.2 j = bI (b.testBit j)) n
    (fun j a h => by simp only [L_X7_rings_105, tle (Nat.le_refl n) (show n < 2 ^ 31 by omega), ↓reduceIte])
    (fun j k a hk h => by
      obtain ⟨x, m⟩ := a
      obtain ⟨h1, h2⟩ := h
      simp only at h1 h2
      subst h1
      refine ⟨(nI (cnt (fun k => b.testBit k) (k + 1)), upd m k (bI (b.testBit k))), ?_, rfl, fun z hz => ?_⟩
      · simp only [L_X7_rings_105, nle hk (show n < 2 ^ 31 by omega), ↓reduceIte, n40 hk (show n ≤ 40 by omega), ck_t, nI_clamp (show k < 2 ^ 31 by omega), bit12 (p12 hn hb) (show k < 12 by omega), nI1, upd_s, nar_0, nar_1, cnt, add0]
        rcases ft (b.testBit k) with q | q
        · simp [q, bI_f]
        · simp [q, bI_t, i10]
      · by_cases ez : z = k
        · subst ez; exact upd_s
        · dsimp only; rw [upd_n ez]; exact h2 z (by omega))
    n 0 N (0, mr) (by omega) (by omega) ⟨rfl, fun z hz => by omega⟩
  simp only at h1 h2 e
  rw [h1] at e
  exact ⟨m', e, h2⟩
def mtest (r n m : Nat) (q : Int32) (x : Nat) : Bool := decide (cnt (fun k => x.testBit k) n = m) && (decide (q = 0) || decide (Pr r n x = q))
theorem mcount (N : Nat) (hN : 25000 ≤ N) {r n m : Nat} (hr : r ≤ 50) (hn : n ≤ 12) (hm : m ≤ 12) (q : Int32) (mr mw : Nat → Int32) (K : Int32 → (Nat → Int32) → (Nat → Int32) → Option (Int32 × Int32 × (Nat → Int32) × (Nat → Int32) × (Nat → Int32))) :
    ∃ m' w', L_X7_rings_91 N (nI n) (nI m) (nI r) q (nI n) K N 0 0 mr mw = K (nI (fb_ct (mtest r n m q) (2 ^ n))) m' w' := by
  have hl := p12' hn (Nat.le_refl (2 ^ n))
  obtain ⟨⟨x, m', w'⟩, h1, e⟩ := loop_ex (σ := Int32 × (Nat → Int32) × (Nat → Int32)) (fun j k a => L_X7_rings_91 N (nI n) (nI m) (nI r) q (nI n) K j a.1 (nI k) a.2.1 a.2.2) (fun a => K a.1 a.2.1 a.2.2)
    (fun k a => a.1 = nI (fb_ct (mtest r n m q) k)) (2 ^ n)
    (fun j a h => by simp only [L_X7_rings_91, pw12 n hn, tle (Nat.le_refl (2 ^ n)) (show 2 ^ n < 2 ^ 31 by omega), ↓reduceIte])
    (fun j k a hk h => by
      obtain ⟨x, g, w⟩ := a
      simp only at h
      subst h
      have hc := cnt_le (fun i => k.testBit i) n
      simp only [L_X7_rings_91, pw12 n hn, nle hk (show 2 ^ n < 2 ^ 31 by omega), ↓reduceIte]
      obtain ⟨g2, e2, z2⟩ := mfill N hN hn hk g (fun y23 u24 => (if y23 = nI m then (if q = (0 : Int32) then (L_X7_rings_91 N (nI n) (nI m) (nI r) q (nI n) K j (nI (fb_ct (mtest r n m q) k) + (1 : Int32)) (nI k + (1 : Int32)) u24 w) else (bd3 (f_X7_periodOf N (nI r) (nI n) u24 w) (fun r27 u28 u29 => (if r27 = q then (L_X7_rings_91 N (nI n) (nI m) (nI r) q (nI n) K j (nI (fb_ct (mtest r n m q) k) + (1 : Int32)) (nI k + (1 : Int32)) u28 u29) else (L_X7_rings_91 N (nI n) (nI m) (nI r) q (nI n) K j (nI (fb_ct (mtest r n m q) k) + (0 : Int32)) (nI k + (1 : Int32)) u28 u29))))) else (L_X7_rings_91 N (nI n) (nI m) (nI r) q (nI n) K j (nI (fb_ct (mtest r n m q) k)) (nI k + (1 : Int32)) u24 w)))
      rw [e2]
      simp only [nI1, add0]
      by_cases c : cnt (fun i => k.testBit i) n = m
      · rw [if_pos (congrArg nI c)]
        by_cases c0 : q = 0
        · rw [if_pos c0]
          refine ⟨(nI (fb_ct (mtest r n m q) (k + 1)), g2, w), ?_, rfl⟩
          rw [fb_ct_succ, show mtest r n m q k = true by unfold mtest; rw [decide_eq_true c, decide_eq_true c0]; rfl]
          rfl
        · rw [if_neg c0]
          obtain ⟨g3, w3, e3, z3, -⟩ := mperiodOf N hN hr (show n ≤ 40 by omega) hk g2 w z2
          rw [e3, bd3_t]
          by_cases c1 : prd r n k 20000 1 k = q
          · rw [if_pos c1]
            refine ⟨(nI (fb_ct (mtest r n m q) (k + 1)), g3, w3), ?_, rfl⟩
            rw [fb_ct_succ, show mtest r n m q k = true by unfold mtest; rw [decide_eq_true c, decide_eq_true (show Pr r n k = q from c1)]; simp]
            rfl
          · rw [if_neg c1]
            refine ⟨(nI (fb_ct (mtest r n m q) (k + 1)), g3, w3), ?_, rfl⟩
            rw [fb_ct_succ, show mtest r n m q k = false by unfold mtest; rw [decide_eq_false c0, decide_eq_false (show ¬ Pr r n k = q from c1)]; simp]
            rfl
      · rw [if_neg (fun e => c ((nI_eq (by omega) (by omega)).mp e))]
        refine ⟨(nI (fb_ct (mtest r n m q) (k + 1)), g2, w), ?_, rfl⟩
        rw [fb_ct_succ, show mtest r n m q k = false by unfold mtest; rw [decide_eq_false c]; rfl]
        rfl)
    (2 ^ n) 0 N (0, mr, mw) (by omega) (by omega) rfl
  simp only at h1 e
  rw [h1] at e
  exact ⟨m', w', e⟩
theorem n40' {k : Nat} (h : k < 40) : ((40 : Int32) ≤ nI k) = False := eq_false (nI_ge (b := 40) h (by decide))
theorem t40' : ((40 : Int32) ≤ nI 40) = True := eq_true (by decide)
theorem nar2 (x : Int32) : vp_nar .boolean (vp_nar .boolean x) = vp_nar .boolean x := by
  show (x &&& 1) &&& 1 = x &&& 1
  rw [Int32.and_assoc]
  rfl
theorem msave (N : Nat) (hN : 25000 ≤ N) (mr mS : Nat → Int32) (K : (Nat → Int32) → Option (Int32 × Int32 × (Nat → Int32) × (Nat → Int32) × (Nat → Int32))) :
    ∃ s', L_X7_rings_53 N mr K N 0 mS = K s' ∧ ∀ k, k < 40 → s' k = vp_nar .boolean (mr k) := by
  obtain ⟨s', h, e⟩ := loop_ex (σ := Nat → Int32) (fun j k a => L_X7_rings_53 N mr K j (nI k) a) (fun a => K a)
    (fun k a => ∀ j, j < k → a j = vp_nar .boolean (mr j)) 40
    (fun j a h => by simp only [L_X7_rings_53, t40', ↓reduceIte])
    (fun j k a hk h => by
      refine ⟨upd a k (vp_nar .boolean (mr k)), ?_, fun z hz => ?_⟩
      · simp only [L_X7_rings_53, n40' hk, ↓reduceIte, n40 hk (Nat.le_refl 40), ck_t, nI_clamp (show k < 2 ^ 31 by omega), nI1]
      · by_cases ez : z = k
        · subst ez; exact upd_s
        · rw [upd_n ez]; exact h z (by omega))
    40 0 N mS (by omega) (by omega) (fun z hz => by omega)
  exact ⟨s', e, h⟩
theorem mload (N : Nat) (hN : 25000 ≤ N) (mr mS : Nat → Int32) (K : (Nat → Int32) → Option (Int32 × Int32 × (Nat → Int32) × (Nat → Int32) × (Nat → Int32))) :
    ∃ s', L_X7_rings_206 N mS K N 0 mr = K s' ∧ ∀ k, k < 40 → s' k = vp_nar .boolean (mS k) := by
  obtain ⟨s', h, e⟩ := loop_ex (σ := Nat → Int32) (fun j k a => L_X7_rings_206 N mS K j (nI k) a) (fun a => K a)
    (fun k a => ∀ j, j < k → a j = vp_nar .boolean (mS j)) 40
    (fun j a h => by simp only [L_X7_rings_206, t40', ↓reduceIte])
    (fun j k a hk h => by
      refine ⟨upd a k (vp_nar .boolean (mS k)), ?_, fun z hz => ?_⟩
      · simp only [L_X7_rings_206, n40' hk, ↓reduceIte, n40 hk (Nat.le_refl 40), ck_t, nI_clamp (show k < 2 ^ 31 by omega), nI1]
      · by_cases ez : z = k
        · subst ez; exact upd_s
        · rw [upd_n ez]; exact h z (by omega))
    40 0 N mr (by omega) (by omega) (fun z hz => by omega)
  exact ⟨s', e, h⟩
theorem lg_ge (x y : Int64) : (0 ≤ lg_cmp x y) ↔ y.toInt ≤ x.toInt := by
  unfold lg_cmp
  by_cases h1 : x > y
  · rw [if_pos h1]
    have := Int64.lt_iff_toInt_lt.mp h1
    exact ⟨fun _ => by omega, fun _ => by decide⟩
  · rw [if_neg h1]
    by_cases h2 : x = y
    · subst h2
      simp
    · simp only [h2, ↓reduceIte]
      have h3 : ¬ y.toInt < x.toInt := fun c => h1 (Int64.lt_iff_toInt_lt.mpr c)
      have h4 : x.toInt ≠ y.toInt := fun c => h2 (Int64.toInt_inj.mp c)
      exact ⟨fun c => absurd c (by decide), fun c => by omega⟩
theorem i32n {x : Int32} {k : Nat} (h1 : 0 ≤ x.toInt) (h2 : x.toInt ≤ k) : ∃ n, n ≤ k ∧ x = nI n := by
  have hr := x.toInt_lt
  refine ⟨x.toInt.toNat, by omega, ?_⟩
  apply Int32.toInt_inj.mp
  rw [nI_toInt (by omega)]
  omega
theorem half12 : ∀ n, n ≤ 12 → ∀ m, m ≤ 12 → ((nI n ≤ 2 * nI m) ↔ n ≤ 2 * m) := by decide +kernel
theorem pu_rings (N : Nat) (hN : 25000 ≤ N) (a1 a2 a3 a4 : Int32) (un : Int32) (ub : Int64) (um : Int64) (uc : Int32) (sn : (Nat → Int64)) (rn : Int32) (mr : (Nat → Int32)) (mw : (Nat → Int32)) (mS : (Nat → Int32)) (rb : Int64) (hR : RR rn rb mr) : ∃ (r : Int32) (un' : Int32) (ub' : Int64) (um' : Int64) (uc' : Int32) (sn' : (Nat → Int64)) (mr' : (Nat → Int32)) (mw' : (Nat → Int32)) (mS' : (Nat → Int32)), f_X6_rings N a1 a2 a3 a4 un ub um uc sn = some (r, un', ub', um', uc', sn') ∧ f_X7_rings N a1 a2 a3 a4 rn mr mw mS = some (r, rn, mr', mw', mS') ∧ RR rn rb mr' := by
  have w0 : (0 : Int32).toInt = 0 := by decide
  have w1 : (1 : Int32).toInt = 1 := by decide
  have w12 : (12 : Int32).toInt = 12 := by decide
  have bad : f_X6_rings N a1 a2 a3 a4 un ub um uc sn = some (-2, un, ub, um, uc, sn) → f_X7_rings N a1 a2 a3 a4 rn mr mw mS = some (-2, rn, mr, mw, mS) → ∃ (r : Int32) (un' : Int32) (ub' : Int64) (um' : Int64) (uc' : Int32) (sn' : (Nat → Int64)) (mr' : (Nat → Int32)) (mw' : (Nat → Int32)) (mS' : (Nat → Int32)), f_X6_rings N a1 a2 a3 a4 un ub um uc sn = some (r, un', ub', um', uc', sn') ∧ f_X7_rings N a1 a2 a3 a4 rn mr mw mS = some (r, rn, mr', mw', mS') ∧ RR rn rb mr' :=
    fun h1 h2 => ⟨-2, un, ub, um, uc, sn, mr, mw, mS, h1, h2, hR⟩
  by_cases c1 : a1 < 1
  · refine bad ?_ ?_
    · unfold f_X6_rings; rw [if_pos c1]
    · unfold f_X7_rings; rw [show f_X7_in N a1 1 12 = some 0 by unfold f_X7_in; rw [if_pos c1], bd1_t, if_pos rfl]
  by_cases c2 : (12 : Int32) < a1
  · refine bad ?_ ?_
    · unfold f_X6_rings; rw [if_neg c1, if_pos c2]
    · unfold f_X7_rings; rw [show f_X7_in N a1 1 12 = some 0 by unfold f_X7_in; rw [if_neg c1, if_pos c2], bd1_t, if_pos rfl]
  have i1 : f_X7_in N a1 1 12 = some 1 := by unfold f_X7_in; rw [if_neg c1, if_neg c2]
  by_cases c3 : a2 < 0
  · refine bad ?_ ?_
    · unfold f_X6_rings; rw [if_neg c1, if_neg c2, if_pos c3]
    · unfold f_X7_rings; rw [i1, bd1_t, if_neg (by decide), if_pos c3]
  have d1 := c1
  have d2 := c2
  have d3 := c3
  rw [Int32.lt_iff_toInt_lt] at d1 d2 d3
  obtain ⟨n, hn, rfl⟩ := i32n (x := a1) (k := 12) (by omega) (by omega)
  have en : (nI n).toInt = n := nI_toInt (by omega)
  have hr2 := a2.toInt_lt
  have e2 : ((2 : Int64) * a2.toInt64).toInt = 2 * a2.toInt := by
    rw [fb_mulL, Int32.toInt_toInt64]
    · rfl
    · rw [Int32.toInt_toInt64]; show _ ≤ 2 * _; omega
    · rw [Int32.toInt_toInt64]; show 2 * _ < _; omega
  have hlg : (0 ≤ lg_cmp ((2 : Int64) * a2.toInt64) (nI n).toInt64) ↔ (n : Int) ≤ 2 * a2.toInt := by
    rw [lg_ge, e2, Int32.toInt_toInt64, en]
  by_cases c4 : nI n < a2
  · have d4 := c4
    rw [Int32.lt_iff_toInt_lt] at d4
    refine bad ?_ ?_
    · unfold f_X6_rings; rw [if_neg c1, if_neg c2, if_neg c3, if_pos c4]
    · unfold f_X7_rings; rw [i1, bd1_t, if_neg (by decide), if_neg c3, if_pos (hlg.mpr (by omega))]
  have d4 := c4
  rw [Int32.lt_iff_toInt_lt] at d4
  obtain ⟨m, hm, rfl⟩ := i32n (x := a2) (k := 12) (by omega) (by omega)
  have em : (nI m).toInt = m := nI_toInt (by omega)
  rw [em] at hlg
  have hh : f_X6_isFewerThanHalf N (nI m) (nI n) = some (if n ≤ 2 * m then 0 else 1) := by
    unfold f_X6_isFewerThanHalf
    by_cases c : n ≤ 2 * m
    · rw [if_pos ((half12 n hn m hm).mpr c), if_pos c]
    · rw [if_neg (fun h => c ((half12 n hn m hm).mp h)), if_neg c]
  by_cases c5 : n ≤ 2 * m
  · rw [if_pos c5] at hh
    refine bad ?_ ?_
    · unfold f_X6_rings; rw [if_neg c1, if_neg c2, if_neg c3, if_neg c4, hh, bd1_t, if_pos rfl]
    · unfold f_X7_rings; rw [i1, bd1_t, if_neg (by decide), if_neg c3, if_pos (hlg.mpr (by omega))]
  rw [if_neg c5] at hh
  have nlg : ¬ (0 ≤ lg_cmp ((2 : Int64) * (nI m).toInt64) (nI n).toInt64) := fun h => by
    have := hlg.mp h
    omega
  rcases room_or a3 with ⟨r, h1, h2, rfl, hi⟩ | hi
  · by_cases c6 : (0 : Int32) ≤ a4
    · obtain ⟨s', e3, z3⟩ := msave N hN mr mS (fun u13 => (L_X7_rings_91 N (nI n) (nI m) (nI r) a4 (nI n) (fun y32 u33 u34 => (L_X7_rings_206 N u13 (fun u38 => (some (y32, rn, u38, u34, u13))) N (0 : Int32) u33)) N (0 : Int32) (0 : Int32) mr mw))
      obtain ⟨m', w', e4⟩ := mcount N hN h2 hn hm a4 mr mw (fun y32 u33 u34 => (L_X7_rings_206 N s' (fun u38 => (some (y32, rn, u38, u34, s'))) N (0 : Int32) u33))
      obtain ⟨m2, e5, z5⟩ := mload N hN m' s' (fun u38 => (some (nI (fb_ct (mtest r n m a4) (2 ^ n)), rn, u38, w', s')))
      have eM : f_X7_rings N (nI n) (nI m) (nI r) a4 rn mr mw mS = some (nI (fb_ct (mtest r n m a4) (2 ^ n)), rn, m2, w', s') := by
        unfold f_X7_rings
        rw [i1, bd1_t, if_neg (by decide), if_neg c3, if_neg nlg, (hi N).2, bd1_t, if_neg (by decide), if_pos c6, e3, e4, e5]
      have hR' : RR rn rb m2 := by
        obtain ⟨k, b, k1, k2, k3, k4, k5, k6⟩ := hR
        refine ⟨k, b, k1, k2, k3, k4, k5, fun i hi => ?_⟩
        rw [z5 i (by omega), z3 i (by omega), nar2, k6 i hi, nar_b]
      have eC : f_X6_rings N (nI n) (nI m) (nI r) a4 un ub um uc sn = (if a4 = (0 : Int32) then (bd1 (f_X2_countAll N (nI n) (nI m)) (fun r20 => (some (r20, un, ub, um, uc, sn)))) else (bd6 (f_X2_countWithPeriod N (nI n) (nI m) (nI r) a4 un ub um uc sn) (fun r13 u14 u15 u16 u17 u18 => (some (r13, u14, u15, u16, u17, u18))))) := by
        unfold f_X6_rings
        rw [if_neg c1, if_neg c2, if_neg c3, if_neg c4, hh, bd1_t, if_neg (by decide), (hi N).1, bd1_t, if_neg (by decide), if_pos c6]
      by_cases c7 : a4 = 0
      · refine ⟨_, un, ub, um, uc, sn, m2, w', s', ?_, eM, hR'⟩
        rw [eC, if_pos c7, ccountAll N hN hn hm, bd1_t]
        rw [show fb_ct (mtest r n m a4) (2 ^ n) = fb_ct (fun x => decide (cnt (fun k => x.testBit k) n = m)) (2 ^ n) from fb_ct_cong (fun x _ => by unfold mtest; rw [decide_eq_true c7]; simp)]
      · obtain ⟨u0, u1, u2, u3, s2, e6⟩ := ccount N hN h2 hn (show 2 * m < n by omega) a4 un ub um uc sn
        refine ⟨_, u0, u1, u2, u3, s2, m2, w', s', ?_, eM, hR'⟩
        rw [eC, if_neg c7, e6, bd6_t]
        rw [show fb_ct (mtest r n m a4) (2 ^ n) = fb_ct (fun x => decide (cnt (fun k => x.testBit k) n = m) && decide (Pr r n x = a4)) (2 ^ n) from fb_ct_cong (fun x _ => by unfold mtest; rw [decide_eq_false c7]; simp)]
    · refine bad ?_ ?_
      · unfold f_X6_rings; rw [if_neg c1, if_neg c2, if_neg c3, if_neg c4, hh, bd1_t, if_neg (by decide), (hi N).1, bd1_t, if_neg (by decide), if_neg c6]
      · unfold f_X7_rings; rw [i1, bd1_t, if_neg (by decide), if_neg c3, if_neg nlg, (hi N).2, bd1_t, if_neg (by decide), if_neg c6]
  · refine bad ?_ ?_
    · unfold f_X6_rings; rw [if_neg c1, if_neg c2, if_neg c3, if_neg c4, hh, bd1_t, if_neg (by decide), (hi N).1, bd1_t, if_pos rfl]
    · unfold f_X7_rings; rw [i1, bd1_t, if_neg (by decide), if_neg c3, if_neg nlg, (hi N).2, bd1_t, if_pos rfl]
