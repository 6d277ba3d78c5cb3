def f_X6_isBox (_ : Nat) (p0 : Int32)  : Option (Int32) :=
  (if p0 < (0 : Int32) then (some (0 : Int32)) else (if (240 : Int32) ≤ p0 then (some (0 : Int32)) else (some (1 : Int32))))

set_option maxHeartbeats 4000000 in
set_option maxRecDepth 100000 in
theorem c_X6_isBox (l : Launch) (D : va_G) (cI cZ cJ cO : ClassId) (sz : Nat) (N : Nat) (p0 : Int32)  (r : Int32) (hf : f_X6_isBox N p0 = some r) : Met l yX6_isBox wsX6_isBox ({ frames := 0, cells := 0, slots := 0, locals := 0 }) (PreC D (TY cI cZ cJ cO) [.int p0] [] sz) (QcI D [] (va_A [] sz) r) 0 0 (va_A [] sz) := by
  refine ctr (cc := cX6_isBox) (maxL := 1) (ret := (some .boolean)) (by decide) rfl (Nat.le_of_ble_eq_true rfl) ?_
  intro p e s m below meth c S hr hlk hnm hK hN hsz hA hw ls hl
  generalize va_A [] sz = A at hA hw ⊢
  have S : CallFix p m c cX6_isBox 1 s ([.int p0] : List Value).toArray wsX6_isBox RX6 := S
  have hx := S.1
  have hb := S.2.1
  have hts := S.2.2.2.2
  have hl : lv_has ls 1 [(0, .int p0)] := hl
  unfold f_X6_isBox at hf
  refine lv_iload_n hx hb dX6_isBox_0 rfl (lv_at hl 0 rfl) ?_
  refine lv_if_lt (tgt := 15) hx hb dX6_isBox_1 (by decide) (fun c1 => ?_) (fun c1 => ?_)
  · have hf := (if_pos c1).symm.trans hf
    refine lv_iconst (v := (0 : Int32)) hx hb dX6_isBox_15 (by decide) ?_
    cases hf
    exact rt_z S hr hlk hw dX6_isBox_16 rfl
  · have hf := (if_neg c1).symm.trans hf
    refine lv_iload_n hx hb dX6_isBox_4 rfl (lv_at hl 0 rfl) ?_
    refine lv_sipush (v := (240 : Int32)) hx hb dX6_isBox_5 (by decide) ?_
    refine lv_icmp_ge (tgt := 15) hx hb dX6_isBox_8 (by decide) (fun c2 => ?_) (fun c2 => ?_)
    · have hf := (if_pos c2).symm.trans hf
      refine lv_iconst (v := (0 : Int32)) hx hb dX6_isBox_15 (by decide) ?_
      cases hf
      exact rt_z S hr hlk hw dX6_isBox_16 rfl
    · have hf := (if_neg c2).symm.trans hf
      refine lv_iconst (v := (1 : Int32)) hx hb dX6_isBox_11 (by decide) ?_
      refine lv_goto (tgt := 16) hx hb dX6_isBox_12 (by decide) ?_
      cases hf
      exact rt_z S hr hlk hw dX6_isBox_16 rfl

def f_X3_ballAt (N : Nat) (p1 : Int32) (t_boxes : (Nat → Int32)) : Option (Int32) :=
  (bd1 (f_X6_isBox N p1) (fun r1 => (if r1 = (0 : Int32) then (some (0 : Int32)) else (ck (inb p1 240) (some (t_boxes p1.toNatClampNeg))))))

set_option maxHeartbeats 4000000 in
set_option maxRecDepth 100000 in
theorem c_X3_ballAt (l : Launch) (D : va_G) (cI cZ cJ cO : ClassId) (sz : Nat) (q_t q_t_boxes q_t_made : Nat) (N : Nat) (p1 : Int32) (t_boxes : (Nat → Int32)) (r : Int32) (hf : f_X3_ballAt N p1 t_boxes = some r) : Met l yX3_ballAt wsX3_ballAt ({ frames := 1, cells := 0, slots := 0, locals := 20 }) (PreC D (TY cI cZ cJ cO) [.ref q_t, .int p1] [(q_t, .inr (3, [.ref q_t_boxes, .ref q_t_made])), (q_t_boxes, .inl (cI, 240, .inl t_boxes))] sz) (QcI D [(q_t, .inr (3, [.ref q_t_boxes, .ref q_t_made])), (q_t_boxes, .inl (cI, 240, .inl t_boxes))] (va_A [(q_t, .inr (3, [.ref q_t_boxes, .ref q_t_made])), (q_t_boxes, .inl (cI, 240, .inl t_boxes))] sz) r) 0 0 (va_A [(q_t, .inr (3, [.ref q_t_boxes, .ref q_t_made])), (q_t_boxes, .inl (cI, 240, .inl t_boxes))] sz) := by
  refine ctr (cc := cX3_ballAt) (maxL := 2) (ret := (some .int)) (by decide) rfl (Nat.le_of_ble_eq_true rfl) ?_
  intro p e s m below meth c S hr hlk hnm hK hN hsz hA hw ls hl
  generalize va_A [(q_t, .inr (3, [.ref q_t_boxes, .ref q_t_made])), (q_t_boxes, .inl (cI, 240, .inl t_boxes))] sz = A at hA hw ⊢
  have S : CallFix p m c cX3_ballAt 2 s ([.ref q_t, .int p1] : List Value).toArray wsX3_ballAt RX3 := S
  have hx := S.1
  have hb := S.2.1
  have hts := S.2.2.2.2
  have hl : lv_has ls 2 [(0, .ref q_t), (1, .int p1)] := hl
  have hinX3 : ∀ w ∈ u_ws RX3 TX3 2, w ∈ wsX3_ballAt := by decide +kernel
  have k9 : Cond.fieldLink RX3 9 "BallBoxes$Row" "boxes" "[I" ∈ wsX3_ballAt := by decide +kernel
  unfold f_X3_ballAt at hf
  refine lv_iload_n hx hb dX3_ballAt_0 rfl (lv_at hl 1 rfl) ?_
  obtain ⟨r1, h2, hf⟩ := bd1_some hf
  refine cl_i (wr := [(q_t, .inr (3, [.ref q_t_boxes, .ref q_t_made])), (q_t_boxes, .inl (cI, 240, .inl t_boxes))]) (ws' := [(q_t, .inr (3, [.ref q_t_boxes, .ref q_t_made])), (q_t_boxes, .inl (cI, 240, .inl t_boxes))]) hA hw [] [0, 1] [0, 1] rfl rfl rfl (by decide) rfl rfl (va_runSN (As := [.int p1]) (rest := []) S (c_X6_isBox l D cI cZ cJ cO _ N p1 r1 h2) ⟨va_cnB 1 hts gX3_ballAt_X6_isBox_n18 rfl rfl rfl (hN _ nw_X3_18) (hts (.initialized RX6) (by decide +kernel)) (by decide +kernel) ⟨Nat.le_of_ble_eq_true rfl, Nat.le_of_ble_eq_true rfl⟩, hts (.static yX6_isBox) (by decide +kernel), trivial⟩ (pre_S hK hN hw [] rfl rfl) rfl rfl hl.1 rfl (lv_room (Nat.le_of_ble_eq_true rfl)) dX3_ballAt_1 ⟨Nat.zero_le _, Nat.zero_le _⟩) (fun H locs hw => ?_)
  refine lv_if_eq (tgt := 16) hx hb dX3_ballAt_4 (by decide) (fun c3 => ?_) (fun c3 => ?_)
  · have hf := (if_pos c3).symm.trans hf
    refine lv_iconst (v := (0 : Int32)) hx hb dX3_ballAt_16 (by decide) ?_
    cases hf
    exact rt_i S hr hlk hw dX3_ballAt_17
  · have hf := (if_neg c3).symm.trans hf
    refine lv_aload_n hx hb dX3_ballAt_7 rfl (lv_at hl 0 rfl) ?_
    refine g_get (ci := 3) (C := RX3) (T := TX3) (N := 2) S hinX3 hK hw 0 0 k9 dX3_ballAt_8 rfl rfl (by decide) rfl ?_
    refine lv_iload_n hx hb dX3_ballAt_11 rfl (lv_at hl 1 rfl) ?_
    obtain ⟨b4, hf⟩ := ck_some hf
    refine g_iald S hK hw 1 0 b4 dX3_ballAt_12 rfl rfl ?_
    refine lv_goto (tgt := 17) hx hb dX3_ballAt_13 (by decide) ?_
    cases hf
    exact rt_i S hr hlk hw dX3_ballAt_17

def L_X3_balls_4 (N : Nat) (t_boxes : (Nat → Int32)) (K : Int32 → Option (Int32)) : Nat → Int32 → Int32 → Option (Int32)
  | 0, _, _ => none
  | n + 1, x1, x2 => (if (240 : Int32) ≤ x2 then (K x1) else (ck (inb x2 240) (L_X3_balls_4 N t_boxes K n (x1 + (t_boxes x2.toNatClampNeg)) (x2 + (1 : Int32)))))

def f_X3_balls (N : Nat)  (t_boxes : (Nat → Int32)) : Option (Int32) :=
  (L_X3_balls_4 N t_boxes (fun y3 => (some y3)) N (0 : Int32) (0 : Int32))

set_option maxHeartbeats 4000000 in
set_option maxRecDepth 100000 in
theorem c_X3_balls (l : Launch) (D : va_G) (cI cZ cJ cO : ClassId) (sz : Nat) (q_t q_t_boxes q_t_made : Nat) (N : Nat)  (t_boxes : (Nat → Int32)) (r : Int32) (hf : f_X3_balls N t_boxes = some r) : Met l yX3_balls wsX3_balls ({ frames := 0, cells := 0, slots := 0, locals := 0 }) (PreC D (TY cI cZ cJ cO) [.ref q_t] [(q_t, .inr (3, [.ref q_t_boxes, .ref q_t_made])), (q_t_boxes, .inl (cI, 240, .inl t_boxes))] sz) (QcI D [(q_t, .inr (3, [.ref q_t_boxes, .ref q_t_made])), (q_t_boxes, .inl (cI, 240, .inl t_boxes))] (va_A [(q_t, .inr (3, [.ref q_t_boxes, .ref q_t_made])), (q_t_boxes, .inl (cI, 240, .inl t_boxes))] sz) r) 0 0 (va_A [(q_t, .inr (3, [.ref q_t_boxes, .ref q_t_made])), (q_t_boxes, .inl (cI, 240, .inl t_boxes))] sz) := by
  refine ctr (cc := cX3_balls) (maxL := 3) (ret := (some .int)) (by decide) rfl (Nat.le_of_ble_eq_true rfl) ?_
  intro p e s m below meth c S hr hlk hnm hK hN hsz hA hw ls hl
  generalize va_A [(q_t, .inr (3, [.ref q_t_boxes, .ref q_t_made])), (q_t_boxes, .inl (cI, 240, .inl t_boxes))] sz = A at hA hw ⊢
  have S : CallFix p m c cX3_balls 3 s ([.ref q_t] : List Value).toArray wsX3_balls RX3 := S
  have hx := S.1
  have hb := S.2.1
  have hts := S.2.2.2.2
  have hl : lv_has ls 3 [(0, .ref q_t)] := hl
  have hinX3 : ∀ w ∈ u_ws RX3 TX3 2, w ∈ wsX3_balls := by decide +kernel
  have k9 : Cond.fieldLink RX3 9 "BallBoxes$Row" "boxes" "[I" ∈ wsX3_balls := by decide +kernel
  have Lp4 : ∀  (K : Int32 → Option (Int32)), (∀ (z1 : Int32) (H : Heap) (locs : List Loc) (ls : Array Slot), Wd D A s.heap [(q_t, .inr (3, [.ref q_t_boxes, .ref q_t_made])), (q_t_boxes, .inl (cI, 240, .inl t_boxes))] H locs → lv_has ls 3 [(1, .int z1)] → K z1 = some r → W p l e ({ frames := 0, cells := 0, slots := 0, locals := 0 } : Room) s m ([.ref q_t] : List Value).toArray below meth c H locs 0 0 (MQ below (QcI D [(q_t, .inr (3, [.ref q_t_boxes, .ref q_t_made])), (q_t_boxes, .inl (cI, 240, .inl t_boxes))] A r) ([.ref q_t] : List Value).toArray s 0 0 A) (F0 m 26 ls [])) → ∀ (n : Nat) (x1 : Int32) (x2 : Int32) (H : Heap) (locs : List Loc) (ls : Array Slot), Wd D A s.heap [(q_t, .inr (3, [.ref q_t_boxes, .ref q_t_made])), (q_t_boxes, .inl (cI, 240, .inl t_boxes))] H locs → lv_has ls 3 [(0, .ref q_t), (1, .int x1), (2, .int x2)] → L_X3_balls_4 N t_boxes K n x1 x2 = some r → W p l e ({ frames := 0, cells := 0, slots := 0, locals := 0 } : Room) s m ([.ref q_t] : List Value).toArray below meth c H locs 0 0 (MQ below (QcI D [(q_t, .inr (3, [.ref q_t_boxes, .ref q_t_made])), (q_t_boxes, .inl (cI, 240, .inl t_boxes))] A r) ([.ref q_t] : List Value).toArray s 0 0 A) (F0 m 4 ls []) := by
    intro  K hKx n
    induction n with
    | zero =>
      intro x1 x2 H locs ls hw hl hf
      rw [L_X3_balls_4] at hf
      cases hf
    | succ n ih =>
      intro x1 x2 H locs ls hw hl hf
      rw [L_X3_balls_4] at hf
      refine lv_iload_n hx hb dX3_balls_4 rfl (lv_at hl 2 rfl) ?_
      refine lv_sipush (v := (240 : Int32)) hx hb dX3_balls_5 (by decide) ?_
      refine lv_icmp_ge (tgt := 26) hx hb dX3_balls_8 (by decide) (fun c1 => ?_) (fun c1 => ?_)
      · have hf := (if_pos c1).symm.trans hf
        exact hKx x1 _ _ _ hw (lv_sub hl [1] rfl) hf
      · have hf := (if_neg c1).symm.trans hf
        refine lv_iload_n hx hb dX3_balls_11 rfl (lv_at hl 1 rfl) ?_
        refine lv_aload_n hx hb dX3_balls_12 rfl (lv_at hl 0 rfl) ?_
        refine g_get (ci := 3) (C := RX3) (T := TX3) (N := 2) S hinX3 hK hw 0 0 k9 dX3_balls_13 rfl rfl (by decide) rfl ?_
        refine lv_iload_n hx hb dX3_balls_16 rfl (lv_at hl 2 rfl) ?_
        obtain ⟨b2, hf⟩ := ck_some hf
        refine g_iald S hK hw 1 0 b2 dX3_balls_17 rfl rfl ?_
        refine lv_iadd hx hb dX3_balls_18 ?_
        refine lv_istore_n (lv' := [(1, .int (x1 + (t_boxes x2.toNatClampNeg))), (0, .ref q_t), (2, .int x2)]) hx hb dX3_balls_19 rfl hl (by decide) rfl (fun ls hl => ?_)
        refine lv_iinc (v := (x2 + (1 : Int32))) (lv' := [(2, .int (x2 + (1 : Int32))), (1, .int (x1 + (t_boxes x2.toNatClampNeg))), (0, .ref q_t)]) hx hb dX3_balls_20 hl (k := 2) rfl rfl (by decide) rfl (fun ls hl => ?_)
        refine lv_goto (tgt := 4) hx hb dX3_balls_23 (by decide) ?_
        exact ih (x1 + (t_boxes x2.toNatClampNeg)) (x2 + (1 : Int32)) _ _ _ hw (lv_sub hl [2, 1, 0] rfl) hf
  unfold f_X3_balls at hf
  refine lv_iconst (v := (0 : Int32)) hx hb dX3_balls_0 (by decide) ?_
  refine lv_istore_n (lv' := [(1, .int (0 : Int32)), (0, .ref q_t)]) hx hb dX3_balls_1 rfl hl (by decide) rfl (fun ls hl => ?_)
  refine lv_iconst (v := (0 : Int32)) hx hb dX3_balls_2 (by decide) ?_
  refine lv_istore_n (lv' := [(2, .int (0 : Int32)), (1, .int (0 : Int32)), (0, .ref q_t)]) hx hb dX3_balls_3 rfl hl (by decide) rfl (fun ls hl => ?_)
  refine Lp4  _ (fun y3 H locs ls hw hl hf => ?_) N (0 : Int32) (0 : Int32) _ _ _ hw (lv_sub hl [2, 1, 0] rfl) hf
  refine lv_iload_n hx hb dX3_balls_26 rfl (lv_at hl 0 rfl) ?_
  cases hf
  exact rt_i S hr hlk hw dX3_balls_27

