def f_X6_isBox (_ : Nat) (p0 : Int32)  : Option (Int32) :=
  (if p0 < (0 : Int32) then (some (0 : Int32)) else (if (240 : Int32) ≤ p0 then (some (0 : Int32)) else (some (1 : Int32))))

set_option maxHeartbeats 4000000 in
set_option maxRecDepth 100000 in
theorem c_X6_isBox (l : Launch) (D : va_G) (cI cZ cJ cO : ClassId) (sz : Nat) (N : Nat) (p0 : Int32)  (r : Int32) (hf : f_X6_isBox N p0 = some r) : Met l yX6_isBox wsX6_isBox ({ frames := 0, cells := 0, slots := 0, locals := 0 }) (PreC D (TY cI cZ cJ cO) [.int p0] [] sz) (QcI D [] (va_A [] sz) r) 0 0 (va_A [] sz) := by
  refine ctr (cc := cX6_isBox) (maxL := 1) (ret := (some .boolean)) (by decide) rfl (Nat.le_of_ble_eq_true rfl) ?_
  intro p e s m below meth c S hr hlk hnm hK hN hsz hA hw ls hl
  generalize va_A [] sz = A at hA hw ⊢
  have S : CallFix p m c cX6_isBox 1 s ([.int p0] : List Value).toArray wsX6_isBox RX6 := S
  have hx := S.1
  have hb := S.2.1
  have hts := S.2.2.2.2
  have hl : lv_has ls 1 [(0, .int p0)] := hl
  unfold f_X6_isBox at hf
  refine lv_iload_n hx hb dX6_isBox_0 rfl (lv_at hl 0 rfl) ?_
  refine lv_if_lt (tgt := 15) hx hb dX6_isBox_1 (by decide) (fun c1 => ?_) (fun c1 => ?_)
  · have hf := (if_pos c1).symm.trans hf
    refine lv_iconst (v := (0 : Int32)) hx hb dX6_isBox_15 (by decide) ?_
    obtain rfl := Option.some.inj hf
    exact rt_z S hr hlk hw dX6_isBox_16 rfl
  · have hf := (if_neg c1).symm.trans hf
    refine lv_iload_n hx hb dX6_isBox_4 rfl (lv_at hl 0 rfl) ?_
    refine lv_sipush (v := (240 : Int32)) hx hb dX6_isBox_5 (by decide) ?_
    refine lv_icmp_ge (tgt := 15) hx hb dX6_isBox_8 (by decide) (fun c2 => ?_) (fun c2 => ?_)
    · have hf := (if_pos c2).symm.trans hf
      refine lv_iconst (v := (0 : Int32)) hx hb dX6_isBox_15 (by decide) ?_
      obtain rfl := Option.some.inj hf
      exact rt_z S hr hlk hw dX6_isBox_16 rfl
    · have hf := (if_neg c2).symm.trans hf
      refine lv_iconst (v := (1 : Int32)) hx hb dX6_isBox_11 (by decide) ?_
      refine lv_goto (tgt := 16) hx hb dX6_isBox_12 (by decide) ?_
      obtain rfl := Option.some.inj hf
      exact rt_z S hr hlk hw dX6_isBox_16 rfl

def f_X3_ballAt (N : Nat) (p1 : Int32) (t_boxes : (Nat → Int32)) : Option (Int32) :=
  (bd1 (f_X6_isBox N p1) (fun r1 => (if r1 = (0 : Int32) then (some (0 : Int32)) else (ck (inb p1 240) (some (t_boxes p1.toNatClampNeg))))))

set_option maxHeartbeats 4000000 in
set_option maxRecDepth 100000 in
theorem c_X3_ballAt (l : Launch) (D : va_G) (cI cZ cJ cO : ClassId) (sz : Nat) (q_t q_t_boxes q_t_made : Nat) (N : Nat) (p1 : Int32) (t_boxes : (Nat → Int32)) (r : Int32) (hf : f_X3_ballAt N p1 t_boxes = some r) : Met l yX3_ballAt wsX3_ballAt ({ frames := 1, cells := 0, slots := 0, locals := 20 }) (PreC D (TY cI cZ cJ cO) [.ref q_t, .int p1] [(q_t, .inr (3, [.ref q_t_boxes, .ref q_t_made])), (q_t_boxes, .inl (cI, 240, .inl t_boxes))] sz) (QcI D [(q_t, .inr (3, [.ref q_t_boxes, .ref q_t_made])), (q_t_boxes, .inl (cI, 240, .inl t_boxes))] (va_A [(q_t, .inr (3, [.ref q_t_boxes, .ref q_t_made])), (q_t_boxes, .inl (cI, 240, .inl t_boxes))] sz) r) 0 0 (va_A [(q_t, .inr (3, [.ref q_t_boxes, .ref q_t_made])), (q_t_boxes, .inl (cI, 240, .inl t_boxes))] sz) := by
  refine ctr (cc := cX3_ballAt) (maxL := 2) (ret := (some .int)) (by decide) rfl (Nat.le_of_ble_eq_true rfl) ?_
  intro p e s m below meth c S hr hlk hnm hK hN hsz hA hw ls hl
  generalize va_A [(q_t, .inr (3, [.ref q_t_boxes, .ref q_t_made])), (q_t_boxes, .inl (cI, 240, .inl t_boxes))] sz = A at hA hw ⊢
  have S : CallFix p m c cX3_ballAt 2 s ([.ref q_t, .int p1] : List Value).toArray wsX3_ballAt RX3 := S
  have hx := S.1
  have hb := S.2.1
  have hts := S.2.2.2.2
  have hl : lv_has ls 2 [(0, .ref q_t), (1, .int p1)] := hl
  have hinX3 : ∀ w ∈ u_ws RX3 TX3 2, w ∈ wsX3_ballAt := by decide +kernel
  have k9 : Cond.fieldLink RX3 9 "BallBoxes$Row" "boxes" "[I" ∈ wsX3_ballAt := by decide +kernel
  unfold f_X3_ballAt at hf
  refine lv_iload_n hx hb dX3_ballAt_0 rfl (lv_at hl 1 rfl) ?_
  obtain ⟨r1, h2, hf⟩ := bd1_some hf
  refine cl_i (wr := [(q_t, .inr (3, [.ref q_t_boxes, .ref q_t_made])), (q_t_boxes, .inl (cI, 240, .inl t_boxes))]) (ws' := [(q_t, .inr (3, [.ref q_t_boxes, .ref q_t_made])), (q_t_boxes, .inl (cI, 240, .inl t_boxes))]) hA hw [] [0, 1] [0, 1] rfl rfl rfl (by decide) rfl rfl (va_runSN (As := [.int p1]) (rest := []) S (c_X6_isBox l D cI cZ cJ cO _ N p1 r1 h2) ⟨va_cnB 1 hts gX3_ballAt_X6_isBox_n18 rfl rfl rfl (hN.1 _ nw_X3_18) (hts (.initialized RX6) (by decide +kernel)) (by decide +kernel) ⟨Nat.le_of_ble_eq_true rfl, Nat.le_of_ble_eq_true rfl⟩, hts (.static yX6_isBox) (by decide +kernel), trivial⟩ (pre_S hK hN hw [] rfl rfl) rfl rfl hl.1 rfl (lv_room (Nat.le_of_ble_eq_true rfl)) dX3_ballAt_1 ⟨Nat.zero_le _, Nat.zero_le _⟩) (fun H locs hw => ?_)
  refine lv_if_eq (tgt := 16) hx hb dX3_ballAt_4 (by decide) (fun c3 => ?_) (fun c3 => ?_)
  · have hf := (if_pos c3).symm.trans hf
    refine lv_iconst (v := (0 : Int32)) hx hb dX3_ballAt_16 (by decide) ?_
    obtain rfl := Option.some.inj hf
    exact rt_i S hr hlk hw dX3_ballAt_17
  · have hf := (if_neg c3).symm.trans hf
    refine lv_aload_n hx hb dX3_ballAt_7 rfl (lv_at hl 0 rfl) ?_
    refine g_get (ci := 3) (C := RX3) (T := TX3) (N := 2) S hinX3 hK hw 0 0 k9 dX3_ballAt_8 rfl rfl (by decide) rfl ?_
    refine lv_iload_n hx hb dX3_ballAt_11 rfl (lv_at hl 1 rfl) ?_
    obtain ⟨b4, hf⟩ := ck_some hf
    refine g_iald S hK hw 1 0 b4 dX3_ballAt_12 rfl rfl ?_
    refine lv_goto (tgt := 17) hx hb dX3_ballAt_13 (by decide) ?_
    obtain rfl := Option.some.inj hf
    exact rt_i S hr hlk hw dX3_ballAt_17

def L_X0_begin_2 (N : Nat) (a1_boxes : (Nat → Int32)) (K : (Nat → Int32) → Option (Int32 × (Nat → Int32))) : Nat → Int32 → (Nat → Int32) → Option (Int32 × (Nat → Int32))
  | 0, _, _ => none
  | n + 1, x2, w_t_left => (if (240 : Int32) ≤ x2 then (K w_t_left) else (bd1 (f_X3_ballAt N x2 a1_boxes) (fun r2 => (ck (inb x2 240) (L_X0_begin_2 N a1_boxes K n (x2 + (1 : Int32)) (upd w_t_left x2.toNatClampNeg r2))))))

def f_X0_begin (N : Nat)  (t_size : Int32) (t_left : (Nat → Int32)) (a1_boxes : (Nat → Int32)) : Option (Int32 × (Nat → Int32)) :=
  (L_X0_begin_2 N a1_boxes (fun u5 => (some ((240 : Int32), u5))) N (0 : Int32) t_left)

set_option maxHeartbeats 4000000 in
set_option maxRecDepth 100000 in
theorem c_X0_begin (l : Launch) (D : va_G) (cI cZ cJ cO : ClassId) (sz : Nat) (q_t q_t_left q_a1 q_a1_boxes q_a1_made : Nat) (N : Nat)  (t_size : Int32) (t_left : (Nat → Int32)) (a1_boxes : (Nat → Int32)) (o_t_size : Int32) (o_t_left : (Nat → Int32)) (hf : f_X0_begin N t_size t_left a1_boxes = some (o_t_size, o_t_left)) : Met l yX0_begin wsX0_begin ({ frames := 2, cells := 0, slots := 0, locals := 41 }) (PreC D (TY cI cZ cJ cO) [.ref q_t, .ref q_a1] [(q_t, .inr (0, [.ref q_t_left, .int t_size])), (q_t_left, .inl (cI, 240, .inl t_left)), (q_a1, .inr (3, [.ref q_a1_boxes, .ref q_a1_made])), (q_a1_boxes, .inl (cI, 240, .inl a1_boxes))] sz) (QcV D [(q_t, .inr (0, [.ref q_t_left, .int o_t_size])), (q_t_left, .inl (cI, 240, .inl o_t_left)), (q_a1, .inr (3, [.ref q_a1_boxes, .ref q_a1_made])), (q_a1_boxes, .inl (cI, 240, .inl a1_boxes))] (va_A [(q_t, .inr (0, [.ref q_t_left, .int t_size])), (q_t_left, .inl (cI, 240, .inl t_left)), (q_a1, .inr (3, [.ref q_a1_boxes, .ref q_a1_made])), (q_a1_boxes, .inl (cI, 240, .inl a1_boxes))] sz)) 0 0 (va_A [(q_t, .inr (0, [.ref q_t_left, .int t_size])), (q_t_left, .inl (cI, 240, .inl t_left)), (q_a1, .inr (3, [.ref q_a1_boxes, .ref q_a1_made])), (q_a1_boxes, .inl (cI, 240, .inl a1_boxes))] sz) := by
  refine ctr (cc := cX0_begin) (maxL := 3) (ret := none) (by decide) rfl (Nat.le_of_ble_eq_true rfl) ?_
  intro p e s m below meth c S hr hlk hnm hK hN hsz hA hw ls hl
  generalize va_A [(q_t, .inr (0, [.ref q_t_left, .int t_size])), (q_t_left, .inl (cI, 240, .inl t_left)), (q_a1, .inr (3, [.ref q_a1_boxes, .ref q_a1_made])), (q_a1_boxes, .inl (cI, 240, .inl a1_boxes))] sz = A at hA hw ⊢
  have S : CallFix p m c cX0_begin 3 s ([.ref q_t, .ref q_a1] : List Value).toArray wsX0_begin RX0 := S
  have hx := S.1
  have hb := S.2.1
  have hts := S.2.2.2.2
  have hl : lv_has ls 3 [(0, .ref q_t), (1, .ref q_a1)] := hl
  have hinX0 : ∀ w ∈ u_ws RX0 TX0 2, w ∈ wsX0_begin := by decide +kernel
  have k9 : Cond.fieldLink RX0 9 "BallBoxes$Pairs" "left" "[I" ∈ wsX0_begin := by decide +kernel
  have k29 : Cond.fieldLink RX0 29 "BallBoxes$Pairs" "size" "I" ∈ wsX0_begin := by decide +kernel
  have Lp2 : ∀ (w_t_size : Int32) (K : (Nat → Int32) → Option (Int32 × (Nat → Int32))), (∀ (z_t_left : (Nat → Int32)) (H : Heap) (locs : List Loc) (ls : Array Slot), Wd D A s.heap [(q_t, .inr (0, [.ref q_t_left, .int w_t_size])), (q_t_left, .inl (cI, 240, .inl z_t_left)), (q_a1, .inr (3, [.ref q_a1_boxes, .ref q_a1_made])), (q_a1_boxes, .inl (cI, 240, .inl a1_boxes))] H locs → lv_has ls 3 [(0, .ref q_t)] → K z_t_left = some (o_t_size, o_t_left) → W p l e ({ frames := 2, cells := 0, slots := 0, locals := 41 } : Room) s m ([.ref q_t, .ref q_a1] : List Value).toArray below meth c H locs 0 0 (MQ below (QcV D [(q_t, .inr (0, [.ref q_t_left, .int o_t_size])), (q_t_left, .inl (cI, 240, .inl o_t_left)), (q_a1, .inr (3, [.ref q_a1_boxes, .ref q_a1_made])), (q_a1_boxes, .inl (cI, 240, .inl a1_boxes))] A) ([.ref q_t, .ref q_a1] : List Value).toArray s 0 0 A) (F0 m 26 ls [])) → ∀ (n : Nat) (x2 : Int32) (w_t_left : (Nat → Int32)) (H : Heap) (locs : List Loc) (ls : Array Slot), Wd D A s.heap [(q_t, .inr (0, [.ref q_t_left, .int w_t_size])), (q_t_left, .inl (cI, 240, .inl w_t_left)), (q_a1, .inr (3, [.ref q_a1_boxes, .ref q_a1_made])), (q_a1_boxes, .inl (cI, 240, .inl a1_boxes))] H locs → lv_has ls 3 [(0, .ref q_t), (1, .ref q_a1), (2, .int x2)] → L_X0_begin_2 N a1_boxes K n x2 w_t_left = some (o_t_size, o_t_left) → W p l e ({ frames := 2, cells := 0, slots := 0, locals := 41 } : Room) s m ([.ref q_t, .ref q_a1] : List Value).toArray below meth c H locs 0 0 (MQ below (QcV D [(q_t, .inr (0, [.ref q_t_left, .int o_t_size])), (q_t_left, .inl (cI, 240, .inl o_t_left)), (q_a1, .inr (3, [.ref q_a1_boxes, .ref q_a1_made])), (q_a1_boxes, .inl (cI, 240, .inl a1_boxes))] A) ([.ref q_t, .ref q_a1] : List Value).toArray s 0 0 A) (F0 m 2 ls []) := by
    intro w_t_size K hKx n
    induction n with
    | zero =>
      intro x2 w_t_left H locs ls hw hl hf
      rw [L_X0_begin_2] at hf
      cases hf
    | succ n ih =>
      intro x2 w_t_left H locs ls hw hl hf
      rw [L_X0_begin_2] at hf
      refine lv_iload_n hx hb dX0_begin_2 rfl (lv_at hl 2 rfl) ?_
      refine lv_sipush (v := (240 : Int32)) hx hb dX0_begin_3 (by decide) ?_
      refine lv_icmp_ge (tgt := 26) hx hb dX0_begin_6 (by decide) (fun c1 => ?_) (fun c1 => ?_)
      · have hf := (if_pos c1).symm.trans hf
        exact hKx w_t_left _ _ _ hw (lv_sub hl [0] rfl) hf
      · have hf := (if_neg c1).symm.trans hf
        refine lv_aload_n hx hb dX0_begin_9 rfl (lv_at hl 0 rfl) ?_
        refine g_get (ci := 0) (C := RX0) (T := TX0) (N := 2) S hinX0 hK hw 0 0 k9 dX0_begin_10 rfl rfl (by decide) rfl ?_
        refine lv_iload_n hx hb dX0_begin_13 rfl (lv_at hl 2 rfl) ?_
        refine lv_aload_n hx hb dX0_begin_14 rfl (lv_at hl 1 rfl) ?_
        refine lv_iload_n hx hb dX0_begin_15 rfl (lv_at hl 2 rfl) ?_
        obtain ⟨r2, h3, hf⟩ := bd1_some hf
        refine cl_i (wr := [(q_t, .inr (0, [.ref q_t_left, .int w_t_size])), (q_t_left, .inl (cI, 240, .inl w_t_left))]) (ws' := [(q_t, .inr (0, [.ref q_t_left, .int w_t_size])), (q_t_left, .inl (cI, 240, .inl w_t_left)), (q_a1, .inr (3, [.ref q_a1_boxes, .ref q_a1_made])), (q_a1_boxes, .inl (cI, 240, .inl a1_boxes))]) hA hw [2, 3] [0, 1] [0, 1, 2, 3] rfl rfl rfl (by decide) rfl rfl (va_runV (As := [.int x2]) (rest := [.int x2, .ref q_t_left]) S (c_X3_ballAt l D cI cZ cJ cO _ q_a1 q_a1_boxes q_a1_made N x2 a1_boxes r2 h3) (cwV 1 hts gX0_begin_X3_ballAt rfl rfl rfl (by decide +kernel) ⟨Nat.le_of_ble_eq_true rfl, Nat.le_of_ble_eq_true rfl⟩) (pre_V hK hN hw [2, 3] rfl rfl (C := RX3) (T := TX3) (N := 2) (ci := 3) (q0 := 0) rfl rfl) rfl rfl hl.1 rfl (lv_room (Nat.le_of_ble_eq_true rfl)) dX0_begin_16 ⟨Nat.zero_le _, Nat.zero_le _⟩) (fun H locs hw => ?_)
        obtain ⟨b4, hf⟩ := ck_some hf
        refine g_iast (ws' := [(q_t, .inr (0, [.ref q_t_left, .int w_t_size])), (q_t_left, .inl (cI, 240, .inl (upd w_t_left x2.toNatClampNeg r2))), (q_a1, .inr (3, [.ref q_a1_boxes, .ref q_a1_made])), (q_a1_boxes, .inl (cI, 240, .inl a1_boxes))]) S hK hw 1 0 b4 dX0_begin_19 rfl rfl rfl (fun H locs hw => ?_)
        refine lv_iinc (v := (x2 + (1 : Int32))) (lv' := [(2, .int (x2 + (1 : Int32))), (0, .ref q_t), (1, .ref q_a1)]) hx hb dX0_begin_20 hl (k := 2) rfl rfl (by decide) rfl (fun ls hl => ?_)
        refine lv_goto (tgt := 2) hx hb dX0_begin_23 (by decide) ?_
        exact ih (x2 + (1 : Int32)) (upd w_t_left x2.toNatClampNeg r2) _ _ _ hw (lv_sub hl [1, 2, 0] rfl) hf
  unfold f_X0_begin at hf
  refine lv_iconst (v := (0 : Int32)) hx hb dX0_begin_0 (by decide) ?_
  refine lv_istore_n (lv' := [(2, .int (0 : Int32)), (0, .ref q_t), (1, .ref q_a1)]) hx hb dX0_begin_1 rfl hl (by decide) rfl (fun ls hl => ?_)
  refine Lp2 t_size _ (fun u5 H locs ls hw hl hf => ?_) N (0 : Int32) t_left _ _ _ hw (lv_sub hl [1, 2, 0] rfl) hf
  refine lv_aload_n hx hb dX0_begin_26 rfl (lv_at hl 0 rfl) ?_
  refine lv_sipush (v := (240 : Int32)) hx hb dX0_begin_27 (by decide) ?_
  refine g_put (ci := 0) (C := RX0) (T := TX0) (N := 2) (ws' := [(q_t, .inr (0, [.ref q_t_left, .int (240 : Int32)])), (q_t_left, .inl (cI, 240, .inl u5)), (q_a1, .inr (3, [.ref q_a1_boxes, .ref q_a1_made])), (q_a1_boxes, .inl (cI, 240, .inl a1_boxes))]) S hinX0 tyX0 tyX0_ok nmX0 hK hw 0 1 k29 dX0_begin_30 rfl rfl (by decide) rfl rfl rfl (Nat.le_of_ble_eq_true rfl) rfl (fun H locs hw => ?_)
  obtain ⟨rfl, rfl⟩ := pr2 (Option.some.inj hf)
  exact rt_v S hr hlk hw dX0_begin_33

def L_X0_takeOut_6 (N : Nat) (w_t_size : Int32) (K : Int32 → Int32 → (Nat → Int32) → Option (Int32 × Int32 × (Nat → Int32))) : Nat → Int32 → Int32 → Int32 → (Nat → Int32) → Option (Int32 × Int32 × (Nat → Int32))
  | 0, _, _, _, _ => none
  | n + 1, x1, x2, x3, w_t_left => (if w_t_size ≤ x3 then (K x1 x2 w_t_left) else (if (240 : Int32) ≤ x3 then (K x1 x2 w_t_left) else (ck (inb x3 240) (if (w_t_left x3.toNatClampNeg) = (0 : Int32) then (if w_t_size ≤ (x3 + (1 : Int32)) then (if (0 : Int32) = (0 : Int32) then (ck (inb x3 240) (ck (inb x2 240) (L_X0_takeOut_6 N w_t_size K n x1 (x2 + (1 : Int32)) (x3 + (1 : Int32)) (upd w_t_left x2.toNatClampNeg (w_t_left x3.toNatClampNeg))))) else (if (1 : Int32) = (0 : Int32) then (ck (inb x3 240) (ck (inb x2 240) (L_X0_takeOut_6 N w_t_size K n x1 (x2 + (1 : Int32)) (x3 + (1 : Int32)) (upd w_t_left x2.toNatClampNeg (w_t_left x3.toNatClampNeg))))) else (L_X0_takeOut_6 N w_t_size K n (x1 + (1 : Int32)) x2 (x3 + (2 : Int32)) w_t_left))) else (if (240 : Int32) ≤ (x3 + (1 : Int32)) then (if (0 : Int32) = (0 : Int32) then (ck (inb x3 240) (ck (inb x2 240) (L_X0_takeOut_6 N w_t_size K n x1 (x2 + (1 : Int32)) (x3 + (1 : Int32)) (upd w_t_left x2.toNatClampNeg (w_t_left x3.toNatClampNeg))))) else (if (1 : Int32) = (0 : Int32) then (ck (inb x3 240) (ck (inb x2 240) (L_X0_takeOut_6 N w_t_size K n x1 (x2 + (1 : Int32)) (x3 + (1 : Int32)) (upd w_t_left x2.toNatClampNeg (w_t_left x3.toNatClampNeg))))) else (L_X0_takeOut_6 N w_t_size K n (x1 + (1 : Int32)) x2 (x3 + (2 : Int32)) w_t_left))) else (ck (inb (x3 + (1 : Int32)) 240) (if (w_t_left (x3 + (1 : Int32)).toNatClampNeg) = (0 : Int32) then (if (0 : Int32) = (0 : Int32) then (ck (inb x3 240) (ck (inb x2 240) (L_X0_takeOut_6 N w_t_size K n x1 (x2 + (1 : Int32)) (x3 + (1 : Int32)) (upd w_t_left x2.toNatClampNeg (w_t_left x3.toNatClampNeg))))) else (if (1 : Int32) = (0 : Int32) then (ck (inb x3 240) (ck (inb x2 240) (L_X0_takeOut_6 N w_t_size K n x1 (x2 + (1 : Int32)) (x3 + (1 : Int32)) (upd w_t_left x2.toNatClampNeg (w_t_left x3.toNatClampNeg))))) else (L_X0_takeOut_6 N w_t_size K n (x1 + (1 : Int32)) x2 (x3 + (2 : Int32)) w_t_left))) else (if (0 : Int32) = (0 : Int32) then (ck (inb x3 240) (ck (inb x2 240) (L_X0_takeOut_6 N w_t_size K n x1 (x2 + (1 : Int32)) (x3 + (1 : Int32)) (upd w_t_left x2.toNatClampNeg (w_t_left x3.toNatClampNeg))))) else (if (0 : Int32) = (0 : Int32) then (ck (inb x3 240) (ck (inb x2 240) (L_X0_takeOut_6 N w_t_size K n x1 (x2 + (1 : Int32)) (x3 + (1 : Int32)) (upd w_t_left x2.toNatClampNeg (w_t_left x3.toNatClampNeg))))) else (L_X0_takeOut_6 N w_t_size K n (x1 + (1 : Int32)) x2 (x3 + (2 : Int32)) w_t_left))))))) else (if w_t_size ≤ (x3 + (1 : Int32)) then (if (1 : Int32) = (0 : Int32) then (ck (inb x3 240) (ck (inb x2 240) (L_X0_takeOut_6 N w_t_size K n x1 (x2 + (1 : Int32)) (x3 + (1 : Int32)) (upd w_t_left x2.toNatClampNeg (w_t_left x3.toNatClampNeg))))) else (if (1 : Int32) = (0 : Int32) then (ck (inb x3 240) (ck (inb x2 240) (L_X0_takeOut_6 N w_t_size K n x1 (x2 + (1 : Int32)) (x3 + (1 : Int32)) (upd w_t_left x2.toNatClampNeg (w_t_left x3.toNatClampNeg))))) else (L_X0_takeOut_6 N w_t_size K n (x1 + (1 : Int32)) x2 (x3 + (2 : Int32)) w_t_left))) else (if (240 : Int32) ≤ (x3 + (1 : Int32)) then (if (1 : Int32) = (0 : Int32) then (ck (inb x3 240) (ck (inb x2 240) (L_X0_takeOut_6 N w_t_size K n x1 (x2 + (1 : Int32)) (x3 + (1 : Int32)) (upd w_t_left x2.toNatClampNeg (w_t_left x3.toNatClampNeg))))) else (if (1 : Int32) = (0 : Int32) then (ck (inb x3 240) (ck (inb x2 240) (L_X0_takeOut_6 N w_t_size K n x1 (x2 + (1 : Int32)) (x3 + (1 : Int32)) (upd w_t_left x2.toNatClampNeg (w_t_left x3.toNatClampNeg))))) else (L_X0_takeOut_6 N w_t_size K n (x1 + (1 : Int32)) x2 (x3 + (2 : Int32)) w_t_left))) else (ck (inb (x3 + (1 : Int32)) 240) (if (w_t_left (x3 + (1 : Int32)).toNatClampNeg) = (0 : Int32) then (if (1 : Int32) = (0 : Int32) then (ck (inb x3 240) (ck (inb x2 240) (L_X0_takeOut_6 N w_t_size K n x1 (x2 + (1 : Int32)) (x3 + (1 : Int32)) (upd w_t_left x2.toNatClampNeg (w_t_left x3.toNatClampNeg))))) else (if (1 : Int32) = (0 : Int32) then (ck (inb x3 240) (ck (inb x2 240) (L_X0_takeOut_6 N w_t_size K n x1 (x2 + (1 : Int32)) (x3 + (1 : Int32)) (upd w_t_left x2.toNatClampNeg (w_t_left x3.toNatClampNeg))))) else (L_X0_takeOut_6 N w_t_size K n (x1 + (1 : Int32)) x2 (x3 + (2 : Int32)) w_t_left))) else (if (1 : Int32) = (0 : Int32) then (ck (inb x3 240) (ck (inb x2 240) (L_X0_takeOut_6 N w_t_size K n x1 (x2 + (1 : Int32)) (x3 + (1 : Int32)) (upd w_t_left x2.toNatClampNeg (w_t_left x3.toNatClampNeg))))) else (if (0 : Int32) = (0 : Int32) then (ck (inb x3 240) (ck (inb x2 240) (L_X0_takeOut_6 N w_t_size K n x1 (x2 + (1 : Int32)) (x3 + (1 : Int32)) (upd w_t_left x2.toNatClampNeg (w_t_left x3.toNatClampNeg))))) else (L_X0_takeOut_6 N w_t_size K n (x1 + (1 : Int32)) x2 (x3 + (2 : Int32)) w_t_left)))))))))))

def f_X0_takeOut (N : Nat)  (t_size : Int32) (t_left : (Nat → Int32)) : Option (Int32 × Int32 × (Nat → Int32)) :=
  (L_X0_takeOut_6 N t_size (fun y61 y62 u63 => (some (y61, y62, u63))) N (0 : Int32) (0 : Int32) (0 : Int32) t_left)

set_option maxHeartbeats 4000000 in
set_option maxRecDepth 100000 in
theorem c_X0_takeOut (l : Launch) (D : va_G) (cI cZ cJ cO : ClassId) (sz : Nat) (q_t q_t_left : Nat) (N : Nat)  (t_size : Int32) (t_left : (Nat → Int32)) (r : Int32) (o_t_size : Int32) (o_t_left : (Nat → Int32)) (hf : f_X0_takeOut N t_size t_left = some (r, o_t_size, o_t_left)) : Met l yX0_takeOut wsX0_takeOut ({ frames := 0, cells := 0, slots := 0, locals := 0 }) (PreC D (TY cI cZ cJ cO) [.ref q_t] [(q_t, .inr (0, [.ref q_t_left, .int t_size])), (q_t_left, .inl (cI, 240, .inl t_left))] sz) (QcI D [(q_t, .inr (0, [.ref q_t_left, .int o_t_size])), (q_t_left, .inl (cI, 240, .inl o_t_left))] (va_A [(q_t, .inr (0, [.ref q_t_left, .int t_size])), (q_t_left, .inl (cI, 240, .inl t_left))] sz) r) 0 0 (va_A [(q_t, .inr (0, [.ref q_t_left, .int t_size])), (q_t_left, .inl (cI, 240, .inl t_left))] sz) := by
  refine ctr (cc := cX0_takeOut) (maxL := 6) (ret := (some .int)) (by decide) rfl (Nat.le_of_ble_eq_true rfl) ?_
  intro p e s m below meth c S hr hlk hnm hK hN hsz hA hw ls hl
  generalize va_A [(q_t, .inr (0, [.ref q_t_left, .int t_size])), (q_t_left, .inl (cI, 240, .inl t_left))] sz = A at hA hw ⊢
  have S : CallFix p m c cX0_takeOut 6 s ([.ref q_t] : List Value).toArray wsX0_takeOut RX0 := S
  have hx := S.1
  have hb := S.2.1
  have hts := S.2.2.2.2
  have hl : lv_has ls 6 [(0, .ref q_t)] := hl
  have hinX0 : ∀ w ∈ u_ws RX0 TX0 2, w ∈ wsX0_takeOut := by decide +kernel
  have k9 : Cond.fieldLink RX0 9 "BallBoxes$Pairs" "left" "[I" ∈ wsX0_takeOut := by decide +kernel
  have k29 : Cond.fieldLink RX0 29 "BallBoxes$Pairs" "size" "I" ∈ wsX0_takeOut := by decide +kernel
  have Lp6 : ∀ (w_t_size : Int32) (K : Int32 → Int32 → (Nat → Int32) → Option (Int32 × Int32 × (Nat → Int32))), (∀ (z1 : Int32) (z2 : Int32) (z_t_left : (Nat → Int32)) (H : Heap) (locs : List Loc) (ls : Array Slot), Wd D A s.heap [(q_t, .inr (0, [.ref q_t_left, .int w_t_size])), (q_t_left, .inl (cI, 240, .inl z_t_left))] H locs → lv_has ls 6 [(0, .ref q_t), (1, .int z1), (2, .int z2)] → K z1 z2 z_t_left = some (r, o_t_size, o_t_left) → W p l e ({ frames := 0, cells := 0, slots := 0, locals := 0 } : Room) s m ([.ref q_t] : List Value).toArray below meth c H locs 0 0 (MQ below (QcI D [(q_t, .inr (0, [.ref q_t_left, .int o_t_size])), (q_t_left, .inl (cI, 240, .inl o_t_left))] A r) ([.ref q_t] : List Value).toArray s 0 0 A) (F0 m 114 ls [])) → ∀ (n : Nat) (x1 : Int32) (x2 : Int32) (x3 : Int32) (w_t_left : (Nat → Int32)) (H : Heap) (locs : List Loc) (ls : Array Slot), Wd D A s.heap [(q_t, .inr (0, [.ref q_t_left, .int w_t_size])), (q_t_left, .inl (cI, 240, .inl w_t_left))] H locs → lv_has ls 6 [(0, .ref q_t), (1, .int x1), (2, .int x2), (3, .int x3)] → L_X0_takeOut_6 N w_t_size K n x1 x2 x3 w_t_left = some (r, o_t_size, o_t_left) → W p l e ({ frames := 0, cells := 0, slots := 0, locals := 0 } : Room) s m ([.ref q_t] : List Value).toArray below meth c H locs 0 0 (MQ below (QcI D [(q_t, .inr (0, [.ref q_t_left, .int o_t_size])), (q_t_left, .inl (cI, 240, .inl o_t_left))] A r) ([.ref q_t] : List Value).toArray s 0 0 A) (F0 m 6 ls []) := by
    intro w_t_size K hKx n
    induction n with
    | zero =>
      intro x1 x2 x3 w_t_left H locs ls hw hl hf
      rw [L_X0_takeOut_6] at hf
      cases hf
    | succ n ih =>
      intro x1 x2 x3 w_t_left H locs ls hw hl hf
      rw [L_X0_takeOut_6] at hf
      refine lv_iload_n hx hb dX0_takeOut_6 rfl (lv_at hl 3 rfl) ?_
      refine lv_aload_n hx hb dX0_takeOut_7 rfl (lv_at hl 0 rfl) ?_
      refine g_get (ci := 0) (C := RX0) (T := TX0) (N := 2) S hinX0 hK hw 0 1 k29 dX0_takeOut_8 rfl rfl (by decide) rfl ?_
      refine lv_icmp_ge (tgt := 114) hx hb dX0_takeOut_11 (by decide) (fun c1 => ?_) (fun c1 => ?_)
      · have hf := (if_pos c1).symm.trans hf
        exact hKx x1 x2 w_t_left _ _ _ hw (lv_sub hl [0, 1, 2] rfl) hf
      · have hf := (if_neg c1).symm.trans hf
        refine lv_iload_n hx hb dX0_takeOut_14 rfl (lv_at hl 3 rfl) ?_
        refine lv_sipush (v := (240 : Int32)) hx hb dX0_takeOut_15 (by decide) ?_
        refine lv_icmp_ge (tgt := 114) hx hb dX0_takeOut_18 (by decide) (fun c2 => ?_) (fun c2 => ?_)
        · have hf := (if_pos c2).symm.trans hf
          exact hKx x1 x2 w_t_left _ _ _ hw (lv_sub hl [0, 1, 2] rfl) hf
        · have hf := (if_neg c2).symm.trans hf
          refine lv_aload_n hx hb dX0_takeOut_21 rfl (lv_at hl 0 rfl) ?_
          refine g_get (ci := 0) (C := RX0) (T := TX0) (N := 2) S hinX0 hK hw 0 0 k9 dX0_takeOut_22 rfl rfl (by decide) rfl ?_
          refine lv_iload_n hx hb dX0_takeOut_25 rfl (lv_at hl 3 rfl) ?_
          obtain ⟨b3, hf⟩ := ck_some hf
          refine g_iald S hK hw 1 0 b3 dX0_takeOut_26 rfl rfl ?_
          refine lv_if_eq (tgt := 34) hx hb dX0_takeOut_27 (by decide) (fun c4 => ?_) (fun c4 => ?_)
          · have hf := (if_pos c4).symm.trans hf
            refine lv_iconst (v := (0 : Int32)) hx hb dX0_takeOut_34 (by decide) ?_
            refine lv_istore (lv' := [(4, .int (0 : Int32)), (0, .ref q_t), (1, .int x1), (2, .int x2), (3, .int x3)]) hx hb dX0_takeOut_35 hl (by decide) rfl (fun ls hl => ?_)
            refine lv_iload_n hx hb dX0_takeOut_37 rfl (lv_at hl 4 rfl) ?_
            refine lv_iconst (v := (1 : Int32)) hx hb dX0_takeOut_38 (by decide) ?_
            refine lv_iadd hx hb dX0_takeOut_39 ?_
            refine lv_aload_n hx hb dX0_takeOut_40 rfl (lv_at hl 1 rfl) ?_
            refine g_get (ci := 0) (C := RX0) (T := TX0) (N := 2) S hinX0 hK hw 0 1 k29 dX0_takeOut_41 rfl rfl (by decide) rfl ?_
            refine lv_icmp_ge (tgt := 67) hx hb dX0_takeOut_44 (by decide) (fun c5 => ?_) (fun c5 => ?_)
            · have hf := (if_pos c5).symm.trans hf
              refine lv_iconst (v := (1 : Int32)) hx hb dX0_takeOut_67 (by decide) ?_
              refine lv_goto (tgt := 72) hx hb dX0_takeOut_68 (by decide) ?_
              refine lv_istore (lv' := [(5, .int (1 : Int32)), (4, .int (0 : Int32)), (0, .ref q_t), (1, .int x1), (2, .int x2), (3, .int x3)]) hx hb dX0_takeOut_72 hl (by decide) rfl (fun ls hl => ?_)
              refine lv_iload hx hb dX0_takeOut_74 (lv_at hl 1 rfl) ?_
              refine lv_if_eq (tgt := 93) hx hb dX0_takeOut_76 (by decide) (fun c6 => ?_) (fun c6 => ?_)
              · have hf := (if_pos c6).symm.trans hf
                refine lv_aload_n hx hb dX0_takeOut_93 rfl (lv_at hl 2 rfl) ?_
                refine g_get (ci := 0) (C := RX0) (T := TX0) (N := 2) S hinX0 hK hw 0 0 k9 dX0_takeOut_94 rfl rfl (by decide) rfl ?_
                refine lv_iload_n hx hb dX0_takeOut_97 rfl (lv_at hl 4 rfl) ?_
                refine lv_aload_n hx hb dX0_takeOut_98 rfl (lv_at hl 2 rfl) ?_
                refine g_get (ci := 0) (C := RX0) (T := TX0) (N := 2) S hinX0 hK hw 0 0 k9 dX0_takeOut_99 rfl rfl (by decide) rfl ?_
                refine lv_iload_n hx hb dX0_takeOut_102 rfl (lv_at hl 5 rfl) ?_
                obtain ⟨b7, hf⟩ := ck_some hf
                refine g_iald S hK hw 1 0 b7 dX0_takeOut_103 rfl rfl ?_
                obtain ⟨b8, hf⟩ := ck_some hf
                refine g_iast (ws' := [(q_t, .inr (0, [.ref q_t_left, .int w_t_size])), (q_t_left, .inl (cI, 240, .inl (upd w_t_left x2.toNatClampNeg (w_t_left x3.toNatClampNeg))))]) S hK hw 1 0 b8 dX0_takeOut_104 rfl rfl rfl (fun H locs hw => ?_)
                refine lv_iinc (v := (x2 + (1 : Int32))) (lv' := [(2, .int (x2 + (1 : Int32))), (5, .int (1 : Int32)), (4, .int (0 : Int32)), (0, .ref q_t), (1, .int x1), (3, .int x3)]) hx hb dX0_takeOut_105 hl (k := 4) rfl rfl (by decide) rfl (fun ls hl => ?_)
                refine lv_iinc (v := (x3 + (1 : Int32))) (lv' := [(3, .int (x3 + (1 : Int32))), (2, .int (x2 + (1 : Int32))), (5, .int (1 : Int32)), (4, .int (0 : Int32)), (0, .ref q_t), (1, .int x1)]) hx hb dX0_takeOut_108 hl (k := 5) rfl rfl (by decide) rfl (fun ls hl => ?_)
                refine lv_goto (tgt := 6) hx hb dX0_takeOut_111 (by decide) ?_
                exact ih x1 (x2 + (1 : Int32)) (x3 + (1 : Int32)) (upd w_t_left x2.toNatClampNeg (w_t_left x3.toNatClampNeg)) _ _ _ hw (lv_sub hl [4, 5, 1, 0] rfl) hf
              · have hf := (if_neg c6).symm.trans hf
                refine lv_iload hx hb dX0_takeOut_79 (lv_at hl 0 rfl) ?_
                refine lv_if_eq (tgt := 93) hx hb dX0_takeOut_81 (by decide) (fun c9 => ?_) (fun c9 => ?_)
                · have hf := (if_pos c9).symm.trans hf
                  refine lv_aload_n hx hb dX0_takeOut_93 rfl (lv_at hl 2 rfl) ?_
                  refine g_get (ci := 0) (C := RX0) (T := TX0) (N := 2) S hinX0 hK hw 0 0 k9 dX0_takeOut_94 rfl rfl (by decide) rfl ?_
                  refine lv_iload_n hx hb dX0_takeOut_97 rfl (lv_at hl 4 rfl) ?_
                  refine lv_aload_n hx hb dX0_takeOut_98 rfl (lv_at hl 2 rfl) ?_
                  refine g_get (ci := 0) (C := RX0) (T := TX0) (N := 2) S hinX0 hK hw 0 0 k9 dX0_takeOut_99 rfl rfl (by decide) rfl ?_
                  refine lv_iload_n hx hb dX0_takeOut_102 rfl (lv_at hl 5 rfl) ?_
                  obtain ⟨b10, hf⟩ := ck_some hf
                  refine g_iald S hK hw 1 0 b10 dX0_takeOut_103 rfl rfl ?_
                  obtain ⟨b11, hf⟩ := ck_some hf
                  refine g_iast (ws' := [(q_t, .inr (0, [.ref q_t_left, .int w_t_size])), (q_t_left, .inl (cI, 240, .inl (upd w_t_left x2.toNatClampNeg (w_t_left x3.toNatClampNeg))))]) S hK hw 1 0 b11 dX0_takeOut_104 rfl rfl rfl (fun H locs hw => ?_)
                  refine lv_iinc (v := (x2 + (1 : Int32))) (lv' := [(2, .int (x2 + (1 : Int32))), (5, .int (1 : Int32)), (4, .int (0 : Int32)), (0, .ref q_t), (1, .int x1), (3, .int x3)]) hx hb dX0_takeOut_105 hl (k := 4) rfl rfl (by decide) rfl (fun ls hl => ?_)
                  refine lv_iinc (v := (x3 + (1 : Int32))) (lv' := [(3, .int (x3 + (1 : Int32))), (2, .int (x2 + (1 : Int32))), (5, .int (1 : Int32)), (4, .int (0 : Int32)), (0, .ref q_t), (1, .int x1)]) hx hb dX0_takeOut_108 hl (k := 5) rfl rfl (by decide) rfl (fun ls hl => ?_)
                  refine lv_goto (tgt := 6) hx hb dX0_takeOut_111 (by decide) ?_
                  exact ih x1 (x2 + (1 : Int32)) (x3 + (1 : Int32)) (upd w_t_left x2.toNatClampNeg (w_t_left x3.toNatClampNeg)) _ _ _ hw (lv_sub hl [4, 5, 1, 0] rfl) hf
                · have hf := (if_neg c9).symm.trans hf
                  refine lv_iinc (v := (x1 + (1 : Int32))) (lv' := [(1, .int (x1 + (1 : Int32))), (5, .int (1 : Int32)), (4, .int (0 : Int32)), (0, .ref q_t), (2, .int x2), (3, .int x3)]) hx hb dX0_takeOut_84 hl (k := 3) rfl rfl (by decide) rfl (fun ls hl => ?_)
                  refine lv_iinc (v := (x3 + (2 : Int32))) (lv' := [(3, .int (x3 + (2 : Int32))), (1, .int (x1 + (1 : Int32))), (5, .int (1 : Int32)), (4, .int (0 : Int32)), (0, .ref q_t), (2, .int x2)]) hx hb dX0_takeOut_87 hl (k := 5) rfl rfl (by decide) rfl (fun ls hl => ?_)
                  refine lv_goto (tgt := 111) hx hb dX0_takeOut_90 (by decide) ?_
                  refine lv_goto (tgt := 6) hx hb dX0_takeOut_111 (by decide) ?_
                  exact ih (x1 + (1 : Int32)) x2 (x3 + (2 : Int32)) w_t_left _ _ _ hw (lv_sub hl [4, 1, 5, 0] rfl) hf
            · have hf := (if_neg c5).symm.trans hf
              refine lv_iload_n hx hb dX0_takeOut_47 rfl (lv_at hl 4 rfl) ?_
              refine lv_iconst (v := (1 : Int32)) hx hb dX0_takeOut_48 (by decide) ?_
              refine lv_iadd hx hb dX0_takeOut_49 ?_
              refine lv_sipush (v := (240 : Int32)) hx hb dX0_takeOut_50 (by decide) ?_
              refine lv_icmp_ge (tgt := 67) hx hb dX0_takeOut_53 (by decide) (fun c12 => ?_) (fun c12 => ?_)
              · have hf := (if_pos c12).symm.trans hf
                refine lv_iconst (v := (1 : Int32)) hx hb dX0_takeOut_67 (by decide) ?_
                refine lv_goto (tgt := 72) hx hb dX0_takeOut_68 (by decide) ?_
                refine lv_istore (lv' := [(5, .int (1 : Int32)), (4, .int (0 : Int32)), (0, .ref q_t), (1, .int x1), (2, .int x2), (3, .int x3)]) hx hb dX0_takeOut_72 hl (by decide) rfl (fun ls hl => ?_)
                refine lv_iload hx hb dX0_takeOut_74 (lv_at hl 1 rfl) ?_
                refine lv_if_eq (tgt := 93) hx hb dX0_takeOut_76 (by decide) (fun c13 => ?_) (fun c13 => ?_)
                · have hf := (if_pos c13).symm.trans hf
                  refine lv_aload_n hx hb dX0_takeOut_93 rfl (lv_at hl 2 rfl) ?_
                  refine g_get (ci := 0) (C := RX0) (T := TX0) (N := 2) S hinX0 hK hw 0 0 k9 dX0_takeOut_94 rfl rfl (by decide) rfl ?_
                  refine lv_iload_n hx hb dX0_takeOut_97 rfl (lv_at hl 4 rfl) ?_
                  refine lv_aload_n hx hb dX0_takeOut_98 rfl (lv_at hl 2 rfl) ?_
                  refine g_get (ci := 0) (C := RX0) (T := TX0) (N := 2) S hinX0 hK hw 0 0 k9 dX0_takeOut_99 rfl rfl (by decide) rfl ?_
                  refine lv_iload_n hx hb dX0_takeOut_102 rfl (lv_at hl 5 rfl) ?_
                  obtain ⟨b14, hf⟩ := ck_some hf
                  refine g_iald S hK hw 1 0 b14 dX0_takeOut_103 rfl rfl ?_
                  obtain ⟨b15, hf⟩ := ck_some hf
                  refine g_iast (ws' := [(q_t, .inr (0, [.ref q_t_left, .int w_t_size])), (q_t_left, .inl (cI, 240, .inl (upd w_t_left x2.toNatClampNeg (w_t_left x3.toNatClampNeg))))]) S hK hw 1 0 b15 dX0_takeOut_104 rfl rfl rfl (fun H locs hw => ?_)
                  refine lv_iinc (v := (x2 + (1 : Int32))) (lv' := [(2, .int (x2 + (1 : Int32))), (5, .int (1 : Int32)), (4, .int (0 : Int32)), (0, .ref q_t), (1, .int x1), (3, .int x3)]) hx hb dX0_takeOut_105 hl (k := 4) rfl rfl (by decide) rfl (fun ls hl => ?_)
                  refine lv_iinc (v := (x3 + (1 : Int32))) (lv' := [(3, .int (x3 + (1 : Int32))), (2, .int (x2 + (1 : Int32))), (5, .int (1 : Int32)), (4, .int (0 : Int32)), (0, .ref q_t), (1, .int x1)]) hx hb dX0_takeOut_108 hl (k := 5) rfl rfl (by decide) rfl (fun ls hl => ?_)
                  refine lv_goto (tgt := 6) hx hb dX0_takeOut_111 (by decide) ?_
                  exact ih x1 (x2 + (1 : Int32)) (x3 + (1 : Int32)) (upd w_t_left x2.toNatClampNeg (w_t_left x3.toNatClampNeg)) _ _ _ hw (lv_sub hl [4, 5, 1, 0] rfl) hf
                · have hf := (if_neg c13).symm.trans hf
                  refine lv_iload hx hb dX0_takeOut_79 (lv_at hl 0 rfl) ?_
                  refine lv_if_eq (tgt := 93) hx hb dX0_takeOut_81 (by decide) (fun c16 => ?_) (fun c16 => ?_)
                  · have hf := (if_pos c16).symm.trans hf
                    refine lv_aload_n hx hb dX0_takeOut_93 rfl (lv_at hl 2 rfl) ?_
                    refine g_get (ci := 0) (C := RX0) (T := TX0) (N := 2) S hinX0 hK hw 0 0 k9 dX0_takeOut_94 rfl rfl (by decide) rfl ?_
                    refine lv_iload_n hx hb dX0_takeOut_97 rfl (lv_at hl 4 rfl) ?_
                    refine lv_aload_n hx hb dX0_takeOut_98 rfl (lv_at hl 2 rfl) ?_
                    refine g_get (ci := 0) (C := RX0) (T := TX0) (N := 2) S hinX0 hK hw 0 0 k9 dX0_takeOut_99 rfl rfl (by decide) rfl ?_
                    refine lv_iload_n hx hb dX0_takeOut_102 rfl (lv_at hl 5 rfl) ?_
                    obtain ⟨b17, hf⟩ := ck_some hf
                    refine g_iald S hK hw 1 0 b17 dX0_takeOut_103 rfl rfl ?_
                    obtain ⟨b18, hf⟩ := ck_some hf
                    refine g_iast (ws' := [(q_t, .inr (0, [.ref q_t_left, .int w_t_size])), (q_t_left, .inl (cI, 240, .inl (upd w_t_left x2.toNatClampNeg (w_t_left x3.toNatClampNeg))))]) S hK hw 1 0 b18 dX0_takeOut_104 rfl rfl rfl (fun H locs hw => ?_)
                    refine lv_iinc (v := (x2 + (1 : Int32))) (lv' := [(2, .int (x2 + (1 : Int32))), (5, .int (1 : Int32)), (4, .int (0 : Int32)), (0, .ref q_t), (1, .int x1), (3, .int x3)]) hx hb dX0_takeOut_105 hl (k := 4) rfl rfl (by decide) rfl (fun ls hl => ?_)
                    refine lv_iinc (v := (x3 + (1 : Int32))) (lv' := [(3, .int (x3 + (1 : Int32))), (2, .int (x2 + (1 : Int32))), (5, .int (1 : Int32)), (4, .int (0 : Int32)), (0, .ref q_t), (1, .int x1)]) hx hb dX0_takeOut_108 hl (k := 5) rfl rfl (by decide) rfl (fun ls hl => ?_)
                    refine lv_goto (tgt := 6) hx hb dX0_takeOut_111 (by decide) ?_
                    exact ih x1 (x2 + (1 : Int32)) (x3 + (1 : Int32)) (upd w_t_left x2.toNatClampNeg (w_t_left x3.toNatClampNeg)) _ _ _ hw (lv_sub hl [4, 5, 1, 0] rfl) hf
                  · have hf := (if_neg c16).symm.trans hf
                    refine lv_iinc (v := (x1 + (1 : Int32))) (lv' := [(1, .int (x1 + (1 : Int32))), (5, .int (1 : Int32)), (4, .int (0 : Int32)), (0, .ref q_t), (2, .int x2), (3, .int x3)]) hx hb dX0_takeOut_84 hl (k := 3) rfl rfl (by decide) rfl (fun ls hl => ?_)
                    refine lv_iinc (v := (x3 + (2 : Int32))) (lv' := [(3, .int (x3 + (2 : Int32))), (1, .int (x1 + (1 : Int32))), (5, .int (1 : Int32)), (4, .int (0 : Int32)), (0, .ref q_t), (2, .int x2)]) hx hb dX0_takeOut_87 hl (k := 5) rfl rfl (by decide) rfl (fun ls hl => ?_)
                    refine lv_goto (tgt := 111) hx hb dX0_takeOut_90 (by decide) ?_
                    refine lv_goto (tgt := 6) hx hb dX0_takeOut_111 (by decide) ?_
                    exact ih (x1 + (1 : Int32)) x2 (x3 + (2 : Int32)) w_t_left _ _ _ hw (lv_sub hl [4, 1, 5, 0] rfl) hf
              · have hf := (if_neg c12).symm.trans hf
                refine lv_aload_n hx hb dX0_takeOut_56 rfl (lv_at hl 1 rfl) ?_
                refine g_get (ci := 0) (C := RX0) (T := TX0) (N := 2) S hinX0 hK hw 0 0 k9 dX0_takeOut_57 rfl rfl (by decide) rfl ?_
                refine lv_iload_n hx hb dX0_takeOut_60 rfl (lv_at hl 4 rfl) ?_
                refine lv_iconst (v := (1 : Int32)) hx hb dX0_takeOut_61 (by decide) ?_
                refine lv_iadd hx hb dX0_takeOut_62 ?_
                obtain ⟨b19, hf⟩ := ck_some hf
                refine g_iald S hK hw 1 0 b19 dX0_takeOut_63 rfl rfl ?_
                refine lv_if_ne (tgt := 71) hx hb dX0_takeOut_64 (by decide) (fun c20 => ?_) (fun c20 => ?_)
                · have hf := (if_neg c20).symm.trans hf
                  refine lv_iconst (v := (0 : Int32)) hx hb dX0_takeOut_71 (by decide) ?_
                  refine lv_istore (lv' := [(5, .int (0 : Int32)), (4, .int (0 : Int32)), (0, .ref q_t), (1, .int x1), (2, .int x2), (3, .int x3)]) hx hb dX0_takeOut_72 hl (by decide) rfl (fun ls hl => ?_)
                  refine lv_iload hx hb dX0_takeOut_74 (lv_at hl 1 rfl) ?_
                  refine lv_if_eq (tgt := 93) hx hb dX0_takeOut_76 (by decide) (fun c21 => ?_) (fun c21 => ?_)
                  · have hf := (if_pos c21).symm.trans hf
                    refine lv_aload_n hx hb dX0_takeOut_93 rfl (lv_at hl 2 rfl) ?_
                    refine g_get (ci := 0) (C := RX0) (T := TX0) (N := 2) S hinX0 hK hw 0 0 k9 dX0_takeOut_94 rfl rfl (by decide) rfl ?_
                    refine lv_iload_n hx hb dX0_takeOut_97 rfl (lv_at hl 4 rfl) ?_
                    refine lv_aload_n hx hb dX0_takeOut_98 rfl (lv_at hl 2 rfl) ?_
                    refine g_get (ci := 0) (C := RX0) (T := TX0) (N := 2) S hinX0 hK hw 0 0 k9 dX0_takeOut_99 rfl rfl (by decide) rfl ?_
                    refine lv_iload_n hx hb dX0_takeOut_102 rfl (lv_at hl 5 rfl) ?_
                    obtain ⟨b22, hf⟩ := ck_some hf
                    refine g_iald S hK hw 1 0 b22 dX0_takeOut_103 rfl rfl ?_
                    obtain ⟨b23, hf⟩ := ck_some hf
                    refine g_iast (ws' := [(q_t, .inr (0, [.ref q_t_left, .int w_t_size])), (q_t_left, .inl (cI, 240, .inl (upd w_t_left x2.toNatClampNeg (w_t_left x3.toNatClampNeg))))]) S hK hw 1 0 b23 dX0_takeOut_104 rfl rfl rfl (fun H locs hw => ?_)
                    refine lv_iinc (v := (x2 + (1 : Int32))) (lv' := [(2, .int (x2 + (1 : Int32))), (5, .int (0 : Int32)), (4, .int (0 : Int32)), (0, .ref q_t), (1, .int x1), (3, .int x3)]) hx hb dX0_takeOut_105 hl (k := 4) rfl rfl (by decide) rfl (fun ls hl => ?_)
                    refine lv_iinc (v := (x3 + (1 : Int32))) (lv' := [(3, .int (x3 + (1 : Int32))), (2, .int (x2 + (1 : Int32))), (5, .int (0 : Int32)), (4, .int (0 : Int32)), (0, .ref q_t), (1, .int x1)]) hx hb dX0_takeOut_108 hl (k := 5) rfl rfl (by decide) rfl (fun ls hl => ?_)
                    refine lv_goto (tgt := 6) hx hb dX0_takeOut_111 (by decide) ?_
                    exact ih x1 (x2 + (1 : Int32)) (x3 + (1 : Int32)) (upd w_t_left x2.toNatClampNeg (w_t_left x3.toNatClampNeg)) _ _ _ hw (lv_sub hl [4, 5, 1, 0] rfl) hf
                  · have hf := (if_neg c21).symm.trans hf
                    refine lv_iload hx hb dX0_takeOut_79 (lv_at hl 0 rfl) ?_
                    refine lv_if_eq (tgt := 93) hx hb dX0_takeOut_81 (by decide) (fun c24 => ?_) (fun c24 => ?_)
                    · have hf := (if_pos c24).symm.trans hf
                      refine lv_aload_n hx hb dX0_takeOut_93 rfl (lv_at hl 2 rfl) ?_
                      refine g_get (ci := 0) (C := RX0) (T := TX0) (N := 2) S hinX0 hK hw 0 0 k9 dX0_takeOut_94 rfl rfl (by decide) rfl ?_
                      refine lv_iload_n hx hb dX0_takeOut_97 rfl (lv_at hl 4 rfl) ?_
                      refine lv_aload_n hx hb dX0_takeOut_98 rfl (lv_at hl 2 rfl) ?_
                      refine g_get (ci := 0) (C := RX0) (T := TX0) (N := 2) S hinX0 hK hw 0 0 k9 dX0_takeOut_99 rfl rfl (by decide) rfl ?_
                      refine lv_iload_n hx hb dX0_takeOut_102 rfl (lv_at hl 5 rfl) ?_
                      obtain ⟨b25, hf⟩ := ck_some hf
                      refine g_iald S hK hw 1 0 b25 dX0_takeOut_103 rfl rfl ?_
                      obtain ⟨b26, hf⟩ := ck_some hf
                      refine g_iast (ws' := [(q_t, .inr (0, [.ref q_t_left, .int w_t_size])), (q_t_left, .inl (cI, 240, .inl (upd w_t_left x2.toNatClampNeg (w_t_left x3.toNatClampNeg))))]) S hK hw 1 0 b26 dX0_takeOut_104 rfl rfl rfl (fun H locs hw => ?_)
                      refine lv_iinc (v := (x2 + (1 : Int32))) (lv' := [(2, .int (x2 + (1 : Int32))), (5, .int (0 : Int32)), (4, .int (0 : Int32)), (0, .ref q_t), (1, .int x1), (3, .int x3)]) hx hb dX0_takeOut_105 hl (k := 4) rfl rfl (by decide) rfl (fun ls hl => ?_)
                      refine lv_iinc (v := (x3 + (1 : Int32))) (lv' := [(3, .int (x3 + (1 : Int32))), (2, .int (x2 + (1 : Int32))), (5, .int (0 : Int32)), (4, .int (0 : Int32)), (0, .ref q_t), (1, .int x1)]) hx hb dX0_takeOut_108 hl (k := 5) rfl rfl (by decide) rfl (fun ls hl => ?_)
                      refine lv_goto (tgt := 6) hx hb dX0_takeOut_111 (by decide) ?_
                      exact ih x1 (x2 + (1 : Int32)) (x3 + (1 : Int32)) (upd w_t_left x2.toNatClampNeg (w_t_left x3.toNatClampNeg)) _ _ _ hw (lv_sub hl [4, 5, 1, 0] rfl) hf
                    · have hf := (if_neg c24).symm.trans hf
                      refine lv_iinc (v := (x1 + (1 : Int32))) (lv' := [(1, .int (x1 + (1 : Int32))), (5, .int (0 : Int32)), (4, .int (0 : Int32)), (0, .ref q_t), (2, .int x2), (3, .int x3)]) hx hb dX0_takeOut_84 hl (k := 3) rfl rfl (by decide) rfl (fun ls hl => ?_)
                      refine lv_iinc (v := (x3 + (2 : Int32))) (lv' := [(3, .int (x3 + (2 : Int32))), (1, .int (x1 + (1 : Int32))), (5, .int (0 : Int32)), (4, .int (0 : Int32)), (0, .ref q_t), (2, .int x2)]) hx hb dX0_takeOut_87 hl (k := 5) rfl rfl (by decide) rfl (fun ls hl => ?_)
                      refine lv_goto (tgt := 111) hx hb dX0_takeOut_90 (by decide) ?_
                      refine lv_goto (tgt := 6) hx hb dX0_takeOut_111 (by decide) ?_
                      exact ih (x1 + (1 : Int32)) x2 (x3 + (2 : Int32)) w_t_left _ _ _ hw (lv_sub hl [4, 1, 5, 0] rfl) hf
                · have hf := (if_pos c20).symm.trans hf
                  refine lv_iconst (v := (1 : Int32)) hx hb dX0_takeOut_67 (by decide) ?_
                  refine lv_goto (tgt := 72) hx hb dX0_takeOut_68 (by decide) ?_
                  refine lv_istore (lv' := [(5, .int (1 : Int32)), (4, .int (0 : Int32)), (0, .ref q_t), (1, .int x1), (2, .int x2), (3, .int x3)]) hx hb dX0_takeOut_72 hl (by decide) rfl (fun ls hl => ?_)
                  refine lv_iload hx hb dX0_takeOut_74 (lv_at hl 1 rfl) ?_
                  refine lv_if_eq (tgt := 93) hx hb dX0_takeOut_76 (by decide) (fun c27 => ?_) (fun c27 => ?_)
                  · have hf := (if_pos c27).symm.trans hf
                    refine lv_aload_n hx hb dX0_takeOut_93 rfl (lv_at hl 2 rfl) ?_
                    refine g_get (ci := 0) (C := RX0) (T := TX0) (N := 2) S hinX0 hK hw 0 0 k9 dX0_takeOut_94 rfl rfl (by decide) rfl ?_
                    refine lv_iload_n hx hb dX0_takeOut_97 rfl (lv_at hl 4 rfl) ?_
                    refine lv_aload_n hx hb dX0_takeOut_98 rfl (lv_at hl 2 rfl) ?_
                    refine g_get (ci := 0) (C := RX0) (T := TX0) (N := 2) S hinX0 hK hw 0 0 k9 dX0_takeOut_99 rfl rfl (by decide) rfl ?_
                    refine lv_iload_n hx hb dX0_takeOut_102 rfl (lv_at hl 5 rfl) ?_
                    obtain ⟨b28, hf⟩ := ck_some hf
                    refine g_iald S hK hw 1 0 b28 dX0_takeOut_103 rfl rfl ?_
                    obtain ⟨b29, hf⟩ := ck_some hf
                    refine g_iast (ws' := [(q_t, .inr (0, [.ref q_t_left, .int w_t_size])), (q_t_left, .inl (cI, 240, .inl (upd w_t_left x2.toNatClampNeg (w_t_left x3.toNatClampNeg))))]) S hK hw 1 0 b29 dX0_takeOut_104 rfl rfl rfl (fun H locs hw => ?_)
                    refine lv_iinc (v := (x2 + (1 : Int32))) (lv' := [(2, .int (x2 + (1 : Int32))), (5, .int (1 : Int32)), (4, .int (0 : Int32)), (0, .ref q_t), (1, .int x1), (3, .int x3)]) hx hb dX0_takeOut_105 hl (k := 4) rfl rfl (by decide) rfl (fun ls hl => ?_)
                    refine lv_iinc (v := (x3 + (1 : Int32))) (lv' := [(3, .int (x3 + (1 : Int32))), (2, .int (x2 + (1 : Int32))), (5, .int (1 : Int32)), (4, .int (0 : Int32)), (0, .ref q_t), (1, .int x1)]) hx hb dX0_takeOut_108 hl (k := 5) rfl rfl (by decide) rfl (fun ls hl => ?_)
                    refine lv_goto (tgt := 6) hx hb dX0_takeOut_111 (by decide) ?_
                    exact ih x1 (x2 + (1 : Int32)) (x3 + (1 : Int32)) (upd w_t_left x2.toNatClampNeg (w_t_left x3.toNatClampNeg)) _ _ _ hw (lv_sub hl [4, 5, 1, 0] rfl) hf
                  · have hf := (if_neg c27).symm.trans hf
                    refine lv_iload hx hb dX0_takeOut_79 (lv_at hl 0 rfl) ?_
                    refine lv_if_eq (tgt := 93) hx hb dX0_takeOut_81 (by decide) (fun c30 => ?_) (fun c30 => ?_)
                    · have hf := (if_pos c30).symm.trans hf
                      refine lv_aload_n hx hb dX0_takeOut_93 rfl (lv_at hl 2 rfl) ?_
                      refine g_get (ci := 0) (C := RX0) (T := TX0) (N := 2) S hinX0 hK hw 0 0 k9 dX0_takeOut_94 rfl rfl (by decide) rfl ?_
                      refine lv_iload_n hx hb dX0_takeOut_97 rfl (lv_at hl 4 rfl) ?_
                      refine lv_aload_n hx hb dX0_takeOut_98 rfl (lv_at hl 2 rfl) ?_
                      refine g_get (ci := 0) (C := RX0) (T := TX0) (N := 2) S hinX0 hK hw 0 0 k9 dX0_takeOut_99 rfl rfl (by decide) rfl ?_
                      refine lv_iload_n hx hb dX0_takeOut_102 rfl (lv_at hl 5 rfl) ?_
                      obtain ⟨b31, hf⟩ := ck_some hf
                      refine g_iald S hK hw 1 0 b31 dX0_takeOut_103 rfl rfl ?_
                      obtain ⟨b32, hf⟩ := ck_some hf
                      refine g_iast (ws' := [(q_t, .inr (0, [.ref q_t_left, .int w_t_size])), (q_t_left, .inl (cI, 240, .inl (upd w_t_left x2.toNatClampNeg (w_t_left x3.toNatClampNeg))))]) S hK hw 1 0 b32 dX0_takeOut_104 rfl rfl rfl (fun H locs hw => ?_)
                      refine lv_iinc (v := (x2 + (1 : Int32))) (lv' := [(2, .int (x2 + (1 : Int32))), (5, .int (1 : Int32)), (4, .int (0 : Int32)), (0, .ref q_t), (1, .int x1), (3, .int x3)]) hx hb dX0_takeOut_105 hl (k := 4) rfl rfl (by decide) rfl (fun ls hl => ?_)
                      refine lv_iinc (v := (x3 + (1 : Int32))) (lv' := [(3, .int (x3 + (1 : Int32))), (2, .int (x2 + (1 : Int32))), (5, .int (1 : Int32)), (4, .int (0 : Int32)), (0, .ref q_t), (1, .int x1)]) hx hb dX0_takeOut_108 hl (k := 5) rfl rfl (by decide) rfl (fun ls hl => ?_)
                      refine lv_goto (tgt := 6) hx hb dX0_takeOut_111 (by decide) ?_
                      exact ih x1 (x2 + (1 : Int32)) (x3 + (1 : Int32)) (upd w_t_left x2.toNatClampNeg (w_t_left x3.toNatClampNeg)) _ _ _ hw (lv_sub hl [4, 5, 1, 0] rfl) hf
                    · have hf := (if_neg c30).symm.trans hf
                      refine lv_iinc (v := (x1 + (1 : Int32))) (lv' := [(1, .int (x1 + (1 : Int32))), (5, .int (1 : Int32)), (4, .int (0 : Int32)), (0, .ref q_t), (2, .int x2), (3, .int x3)]) hx hb dX0_takeOut_84 hl (k := 3) rfl rfl (by decide) rfl (fun ls hl => ?_)
                      refine lv_iinc (v := (x3 + (2 : Int32))) (lv' := [(3, .int (x3 + (2 : Int32))), (1, .int (x1 + (1 : Int32))), (5, .int (1 : Int32)), (4, .int (0 : Int32)), (0, .ref q_t), (2, .int x2)]) hx hb dX0_takeOut_87 hl (k := 5) rfl rfl (by decide) rfl (fun ls hl => ?_)
                      refine lv_goto (tgt := 111) hx hb dX0_takeOut_90 (by decide) ?_
                      refine lv_goto (tgt := 6) hx hb dX0_takeOut_111 (by decide) ?_
                      exact ih (x1 + (1 : Int32)) x2 (x3 + (2 : Int32)) w_t_left _ _ _ hw (lv_sub hl [4, 1, 5, 0] rfl) hf
          · have hf := (if_neg c4).symm.trans hf
            refine lv_iconst (v := (1 : Int32)) hx hb dX0_takeOut_30 (by decide) ?_
            refine lv_goto (tgt := 35) hx hb dX0_takeOut_31 (by decide) ?_
            refine lv_istore (lv' := [(4, .int (1 : Int32)), (0, .ref q_t), (1, .int x1), (2, .int x2), (3, .int x3)]) hx hb dX0_takeOut_35 hl (by decide) rfl (fun ls hl => ?_)
            refine lv_iload_n hx hb dX0_takeOut_37 rfl (lv_at hl 4 rfl) ?_
            refine lv_iconst (v := (1 : Int32)) hx hb dX0_takeOut_38 (by decide) ?_
            refine lv_iadd hx hb dX0_takeOut_39 ?_
            refine lv_aload_n hx hb dX0_takeOut_40 rfl (lv_at hl 1 rfl) ?_
            refine g_get (ci := 0) (C := RX0) (T := TX0) (N := 2) S hinX0 hK hw 0 1 k29 dX0_takeOut_41 rfl rfl (by decide) rfl ?_
            refine lv_icmp_ge (tgt := 67) hx hb dX0_takeOut_44 (by decide) (fun c33 => ?_) (fun c33 => ?_)
            · have hf := (if_pos c33).symm.trans hf
              refine lv_iconst (v := (1 : Int32)) hx hb dX0_takeOut_67 (by decide) ?_
              refine lv_goto (tgt := 72) hx hb dX0_takeOut_68 (by decide) ?_
              refine lv_istore (lv' := [(5, .int (1 : Int32)), (4, .int (1 : Int32)), (0, .ref q_t), (1, .int x1), (2, .int x2), (3, .int x3)]) hx hb dX0_takeOut_72 hl (by decide) rfl (fun ls hl => ?_)
              refine lv_iload hx hb dX0_takeOut_74 (lv_at hl 1 rfl) ?_
              refine lv_if_eq (tgt := 93) hx hb dX0_takeOut_76 (by decide) (fun c34 => ?_) (fun c34 => ?_)
              · have hf := (if_pos c34).symm.trans hf
                refine lv_aload_n hx hb dX0_takeOut_93 rfl (lv_at hl 2 rfl) ?_
                refine g_get (ci := 0) (C := RX0) (T := TX0) (N := 2) S hinX0 hK hw 0 0 k9 dX0_takeOut_94 rfl rfl (by decide) rfl ?_
                refine lv_iload_n hx hb dX0_takeOut_97 rfl (lv_at hl 4 rfl) ?_
                refine lv_aload_n hx hb dX0_takeOut_98 rfl (lv_at hl 2 rfl) ?_
                refine g_get (ci := 0) (C := RX0) (T := TX0) (N := 2) S hinX0 hK hw 0 0 k9 dX0_takeOut_99 rfl rfl (by decide) rfl ?_
                refine lv_iload_n hx hb dX0_takeOut_102 rfl (lv_at hl 5 rfl) ?_
                obtain ⟨b35, hf⟩ := ck_some hf
                refine g_iald S hK hw 1 0 b35 dX0_takeOut_103 rfl rfl ?_
                obtain ⟨b36, hf⟩ := ck_some hf
                refine g_iast (ws' := [(q_t, .inr (0, [.ref q_t_left, .int w_t_size])), (q_t_left, .inl (cI, 240, .inl (upd w_t_left x2.toNatClampNeg (w_t_left x3.toNatClampNeg))))]) S hK hw 1 0 b36 dX0_takeOut_104 rfl rfl rfl (fun H locs hw => ?_)
                refine lv_iinc (v := (x2 + (1 : Int32))) (lv' := [(2, .int (x2 + (1 : Int32))), (5, .int (1 : Int32)), (4, .int (1 : Int32)), (0, .ref q_t), (1, .int x1), (3, .int x3)]) hx hb dX0_takeOut_105 hl (k := 4) rfl rfl (by decide) rfl (fun ls hl => ?_)
                refine lv_iinc (v := (x3 + (1 : Int32))) (lv' := [(3, .int (x3 + (1 : Int32))), (2, .int (x2 + (1 : Int32))), (5, .int (1 : Int32)), (4, .int (1 : Int32)), (0, .ref q_t), (1, .int x1)]) hx hb dX0_takeOut_108 hl (k := 5) rfl rfl (by decide) rfl (fun ls hl => ?_)
                refine lv_goto (tgt := 6) hx hb dX0_takeOut_111 (by decide) ?_
                exact ih x1 (x2 + (1 : Int32)) (x3 + (1 : Int32)) (upd w_t_left x2.toNatClampNeg (w_t_left x3.toNatClampNeg)) _ _ _ hw (lv_sub hl [4, 5, 1, 0] rfl) hf
              · have hf := (if_neg c34).symm.trans hf
                refine lv_iload hx hb dX0_takeOut_79 (lv_at hl 0 rfl) ?_
                refine lv_if_eq (tgt := 93) hx hb dX0_takeOut_81 (by decide) (fun c37 => ?_) (fun c37 => ?_)
                · have hf := (if_pos c37).symm.trans hf
                  refine lv_aload_n hx hb dX0_takeOut_93 rfl (lv_at hl 2 rfl) ?_
                  refine g_get (ci := 0) (C := RX0) (T := TX0) (N := 2) S hinX0 hK hw 0 0 k9 dX0_takeOut_94 rfl rfl (by decide) rfl ?_
                  refine lv_iload_n hx hb dX0_takeOut_97 rfl (lv_at hl 4 rfl) ?_
                  refine lv_aload_n hx hb dX0_takeOut_98 rfl (lv_at hl 2 rfl) ?_
                  refine g_get (ci := 0) (C := RX0) (T := TX0) (N := 2) S hinX0 hK hw 0 0 k9 dX0_takeOut_99 rfl rfl (by decide) rfl ?_
                  refine lv_iload_n hx hb dX0_takeOut_102 rfl (lv_at hl 5 rfl) ?_
                  obtain ⟨b38, hf⟩ := ck_some hf
                  refine g_iald S hK hw 1 0 b38 dX0_takeOut_103 rfl rfl ?_
                  obtain ⟨b39, hf⟩ := ck_some hf
                  refine g_iast (ws' := [(q_t, .inr (0, [.ref q_t_left, .int w_t_size])), (q_t_left, .inl (cI, 240, .inl (upd w_t_left x2.toNatClampNeg (w_t_left x3.toNatClampNeg))))]) S hK hw 1 0 b39 dX0_takeOut_104 rfl rfl rfl (fun H locs hw => ?_)
                  refine lv_iinc (v := (x2 + (1 : Int32))) (lv' := [(2, .int (x2 + (1 : Int32))), (5, .int (1 : Int32)), (4, .int (1 : Int32)), (0, .ref q_t), (1, .int x1), (3, .int x3)]) hx hb dX0_takeOut_105 hl (k := 4) rfl rfl (by decide) rfl (fun ls hl => ?_)
                  refine lv_iinc (v := (x3 + (1 : Int32))) (lv' := [(3, .int (x3 + (1 : Int32))), (2, .int (x2 + (1 : Int32))), (5, .int (1 : Int32)), (4, .int (1 : Int32)), (0, .ref q_t), (1, .int x1)]) hx hb dX0_takeOut_108 hl (k := 5) rfl rfl (by decide) rfl (fun ls hl => ?_)
                  refine lv_goto (tgt := 6) hx hb dX0_takeOut_111 (by decide) ?_
                  exact ih x1 (x2 + (1 : Int32)) (x3 + (1 : Int32)) (upd w_t_left x2.toNatClampNeg (w_t_left x3.toNatClampNeg)) _ _ _ hw (lv_sub hl [4, 5, 1, 0] rfl) hf
                · have hf := (if_neg c37).symm.trans hf
                  refine lv_iinc (v := (x1 + (1 : Int32))) (lv' := [(1, .int (x1 + (1 : Int32))), (5, .int (1 : Int32)), (4, .int (1 : Int32)), (0, .ref q_t), (2, .int x2), (3, .int x3)]) hx hb dX0_takeOut_84 hl (k := 3) rfl rfl (by decide) rfl (fun ls hl => ?_)
                  refine lv_iinc (v := (x3 + (2 : Int32))) (lv' := [(3, .int (x3 + (2 : Int32))), (1, .int (x1 + (1 : Int32))), (5, .int (1 : Int32)), (4, .int (1 : Int32)), (0, .ref q_t), (2, .int x2)]) hx hb dX0_takeOut_87 hl (k := 5) rfl rfl (by decide) rfl (fun ls hl => ?_)
                  refine lv_goto (tgt := 111) hx hb dX0_takeOut_90 (by decide) ?_
                  refine lv_goto (tgt := 6) hx hb dX0_takeOut_111 (by decide) ?_
                  exact ih (x1 + (1 : Int32)) x2 (x3 + (2 : Int32)) w_t_left _ _ _ hw (lv_sub hl [4, 1, 5, 0] rfl) hf
            · have hf := (if_neg c33).symm.trans hf
              refine lv_iload_n hx hb dX0_takeOut_47 rfl (lv_at hl 4 rfl) ?_
              refine lv_iconst (v := (1 : Int32)) hx hb dX0_takeOut_48 (by decide) ?_
              refine lv_iadd hx hb dX0_takeOut_49 ?_
              refine lv_sipush (v := (240 : Int32)) hx hb dX0_takeOut_50 (by decide) ?_
              refine lv_icmp_ge (tgt := 67) hx hb dX0_takeOut_53 (by decide) (fun c40 => ?_) (fun c40 => ?_)
              · have hf := (if_pos c40).symm.trans hf
                refine lv_iconst (v := (1 : Int32)) hx hb dX0_takeOut_67 (by decide) ?_
                refine lv_goto (tgt := 72) hx hb dX0_takeOut_68 (by decide) ?_
                refine lv_istore (lv' := [(5, .int (1 : Int32)), (4, .int (1 : Int32)), (0, .ref q_t), (1, .int x1), (2, .int x2), (3, .int x3)]) hx hb dX0_takeOut_72 hl (by decide) rfl (fun ls hl => ?_)
                refine lv_iload hx hb dX0_takeOut_74 (lv_at hl 1 rfl) ?_
                refine lv_if_eq (tgt := 93) hx hb dX0_takeOut_76 (by decide) (fun c41 => ?_) (fun c41 => ?_)
                · have hf := (if_pos c41).symm.trans hf
                  refine lv_aload_n hx hb dX0_takeOut_93 rfl (lv_at hl 2 rfl) ?_
                  refine g_get (ci := 0) (C := RX0) (T := TX0) (N := 2) S hinX0 hK hw 0 0 k9 dX0_takeOut_94 rfl rfl (by decide) rfl ?_
                  refine lv_iload_n hx hb dX0_takeOut_97 rfl (lv_at hl 4 rfl) ?_
                  refine lv_aload_n hx hb dX0_takeOut_98 rfl (lv_at hl 2 rfl) ?_
                  refine g_get (ci := 0) (C := RX0) (T := TX0) (N := 2) S hinX0 hK hw 0 0 k9 dX0_takeOut_99 rfl rfl (by decide) rfl ?_
                  refine lv_iload_n hx hb dX0_takeOut_102 rfl (lv_at hl 5 rfl) ?_
                  obtain ⟨b42, hf⟩ := ck_some hf
                  refine g_iald S hK hw 1 0 b42 dX0_takeOut_103 rfl rfl ?_
                  obtain ⟨b43, hf⟩ := ck_some hf
                  refine g_iast (ws' := [(q_t, .inr (0, [.ref q_t_left, .int w_t_size])), (q_t_left, .inl (cI, 240, .inl (upd w_t_left x2.toNatClampNeg (w_t_left x3.toNatClampNeg))))]) S hK hw 1 0 b43 dX0_takeOut_104 rfl rfl rfl (fun H locs hw => ?_)
                  refine lv_iinc (v := (x2 + (1 : Int32))) (lv' := [(2, .int (x2 + (1 : Int32))), (5, .int (1 : Int32)), (4, .int (1 : Int32)), (0, .ref q_t), (1, .int x1), (3, .int x3)]) hx hb dX0_takeOut_105 hl (k := 4) rfl rfl (by decide) rfl (fun ls hl => ?_)
                  refine lv_iinc (v := (x3 + (1 : Int32))) (lv' := [(3, .int (x3 + (1 : Int32))), (2, .int (x2 + (1 : Int32))), (5, .int (1 : Int32)), (4, .int (1 : Int32)), (0, .ref q_t), (1, .int x1)]) hx hb dX0_takeOut_108 hl (k := 5) rfl rfl (by decide) rfl (fun ls hl => ?_)
                  refine lv_goto (tgt := 6) hx hb dX0_takeOut_111 (by decide) ?_
                  exact ih x1 (x2 + (1 : Int32)) (x3 + (1 : Int32)) (upd w_t_left x2.toNatClampNeg (w_t_left x3.toNatClampNeg)) _ _ _ hw (lv_sub hl [4, 5, 1, 0] rfl) hf
                · have hf := (if_neg c41).symm.trans hf
                  refine lv_iload hx hb dX0_takeOut_79 (lv_at hl 0 rfl) ?_
                  refine lv_if_eq (tgt := 93) hx hb dX0_takeOut_81 (by decide) (fun c44 => ?_) (fun c44 => ?_)
                  · have hf := (if_pos c44).symm.trans hf
                    refine lv_aload_n hx hb dX0_takeOut_93 rfl (lv_at hl 2 rfl) ?_
                    refine g_get (ci := 0) (C := RX0) (T := TX0) (N := 2) S hinX0 hK hw 0 0 k9 dX0_takeOut_94 rfl rfl (by decide) rfl ?_
                    refine lv_iload_n hx hb dX0_takeOut_97 rfl (lv_at hl 4 rfl) ?_
                    refine lv_aload_n hx hb dX0_takeOut_98 rfl (lv_at hl 2 rfl) ?_
                    refine g_get (ci := 0) (C := RX0) (T := TX0) (N := 2) S hinX0 hK hw 0 0 k9 dX0_takeOut_99 rfl rfl (by decide) rfl ?_
                    refine lv_iload_n hx hb dX0_takeOut_102 rfl (lv_at hl 5 rfl) ?_
                    obtain ⟨b45, hf⟩ := ck_some hf
                    refine g_iald S hK hw 1 0 b45 dX0_takeOut_103 rfl rfl ?_
                    obtain ⟨b46, hf⟩ := ck_some hf
                    refine g_iast (ws' := [(q_t, .inr (0, [.ref q_t_left, .int w_t_size])), (q_t_left, .inl (cI, 240, .inl (upd w_t_left x2.toNatClampNeg (w_t_left x3.toNatClampNeg))))]) S hK hw 1 0 b46 dX0_takeOut_104 rfl rfl rfl (fun H locs hw => ?_)
                    refine lv_iinc (v := (x2 + (1 : Int32))) (lv' := [(2, .int (x2 + (1 : Int32))), (5, .int (1 : Int32)), (4, .int (1 : Int32)), (0, .ref q_t), (1, .int x1), (3, .int x3)]) hx hb dX0_takeOut_105 hl (k := 4) rfl rfl (by decide) rfl (fun ls hl => ?_)
                    refine lv_iinc (v := (x3 + (1 : Int32))) (lv' := [(3, .int (x3 + (1 : Int32))), (2, .int (x2 + (1 : Int32))), (5, .int (1 : Int32)), (4, .int (1 : Int32)), (0, .ref q_t), (1, .int x1)]) hx hb dX0_takeOut_108 hl (k := 5) rfl rfl (by decide) rfl (fun ls hl => ?_)
                    refine lv_goto (tgt := 6) hx hb dX0_takeOut_111 (by decide) ?_
                    exact ih x1 (x2 + (1 : Int32)) (x3 + (1 : Int32)) (upd w_t_left x2.toNatClampNeg (w_t_left x3.toNatClampNeg)) _ _ _ hw (lv_sub hl [4, 5, 1, 0] rfl) hf
                  · have hf := (if_neg c44).symm.trans hf
                    refine lv_iinc (v := (x1 + (1 : Int32))) (lv' := [(1, .int (x1 + (1 : Int32))), (5, .int (1 : Int32)), (4, .int (1 : Int32)), (0, .ref q_t), (2, .int x2), (3, .int x3)]) hx hb dX0_takeOut_84 hl (k := 3) rfl rfl (by decide) rfl (fun ls hl => ?_)
                    refine lv_iinc (v := (x3 + (2 : Int32))) (lv' := [(3, .int (x3 + (2 : Int32))), (1, .int (x1 + (1 : Int32))), (5, .int (1 : Int32)), (4, .int (1 : Int32)), (0, .ref q_t), (2, .int x2)]) hx hb dX0_takeOut_87 hl (k := 5) rfl rfl (by decide) rfl (fun ls hl => ?_)
                    refine lv_goto (tgt := 111) hx hb dX0_takeOut_90 (by decide) ?_
                    refine lv_goto (tgt := 6) hx hb dX0_takeOut_111 (by decide) ?_
                    exact ih (x1 + (1 : Int32)) x2 (x3 + (2 : Int32)) w_t_left _ _ _ hw (lv_sub hl [4, 1, 5, 0] rfl) hf
              · have hf := (if_neg c40).symm.trans hf
                refine lv_aload_n hx hb dX0_takeOut_56 rfl (lv_at hl 1 rfl) ?_
                refine g_get (ci := 0) (C := RX0) (T := TX0) (N := 2) S hinX0 hK hw 0 0 k9 dX0_takeOut_57 rfl rfl (by decide) rfl ?_
                refine lv_iload_n hx hb dX0_takeOut_60 rfl (lv_at hl 4 rfl) ?_
                refine lv_iconst (v := (1 : Int32)) hx hb dX0_takeOut_61 (by decide) ?_
                refine lv_iadd hx hb dX0_takeOut_62 ?_
                obtain ⟨b47, hf⟩ := ck_some hf
                refine g_iald S hK hw 1 0 b47 dX0_takeOut_63 rfl rfl ?_
                refine lv_if_ne (tgt := 71) hx hb dX0_takeOut_64 (by decide) (fun c48 => ?_) (fun c48 => ?_)
                · have hf := (if_neg c48).symm.trans hf
                  refine lv_iconst (v := (0 : Int32)) hx hb dX0_takeOut_71 (by decide) ?_
                  refine lv_istore (lv' := [(5, .int (0 : Int32)), (4, .int (1 : Int32)), (0, .ref q_t), (1, .int x1), (2, .int x2), (3, .int x3)]) hx hb dX0_takeOut_72 hl (by decide) rfl (fun ls hl => ?_)
                  refine lv_iload hx hb dX0_takeOut_74 (lv_at hl 1 rfl) ?_
                  refine lv_if_eq (tgt := 93) hx hb dX0_takeOut_76 (by decide) (fun c49 => ?_) (fun c49 => ?_)
                  · have hf := (if_pos c49).symm.trans hf
                    refine lv_aload_n hx hb dX0_takeOut_93 rfl (lv_at hl 2 rfl) ?_
                    refine g_get (ci := 0) (C := RX0) (T := TX0) (N := 2) S hinX0 hK hw 0 0 k9 dX0_takeOut_94 rfl rfl (by decide) rfl ?_
                    refine lv_iload_n hx hb dX0_takeOut_97 rfl (lv_at hl 4 rfl) ?_
                    refine lv_aload_n hx hb dX0_takeOut_98 rfl (lv_at hl 2 rfl) ?_
                    refine g_get (ci := 0) (C := RX0) (T := TX0) (N := 2) S hinX0 hK hw 0 0 k9 dX0_takeOut_99 rfl rfl (by decide) rfl ?_
                    refine lv_iload_n hx hb dX0_takeOut_102 rfl (lv_at hl 5 rfl) ?_
                    obtain ⟨b50, hf⟩ := ck_some hf
                    refine g_iald S hK hw 1 0 b50 dX0_takeOut_103 rfl rfl ?_
                    obtain ⟨b51, hf⟩ := ck_some hf
                    refine g_iast (ws' := [(q_t, .inr (0, [.ref q_t_left, .int w_t_size])), (q_t_left, .inl (cI, 240, .inl (upd w_t_left x2.toNatClampNeg (w_t_left x3.toNatClampNeg))))]) S hK hw 1 0 b51 dX0_takeOut_104 rfl rfl rfl (fun H locs hw => ?_)
                    refine lv_iinc (v := (x2 + (1 : Int32))) (lv' := [(2, .int (x2 + (1 : Int32))), (5, .int (0 : Int32)), (4, .int (1 : Int32)), (0, .ref q_t), (1, .int x1), (3, .int x3)]) hx hb dX0_takeOut_105 hl (k := 4) rfl rfl (by decide) rfl (fun ls hl => ?_)
                    refine lv_iinc (v := (x3 + (1 : Int32))) (lv' := [(3, .int (x3 + (1 : Int32))), (2, .int (x2 + (1 : Int32))), (5, .int (0 : Int32)), (4, .int (1 : Int32)), (0, .ref q_t), (1, .int x1)]) hx hb dX0_takeOut_108 hl (k := 5) rfl rfl (by decide) rfl (fun ls hl => ?_)
                    refine lv_goto (tgt := 6) hx hb dX0_takeOut_111 (by decide) ?_
                    exact ih x1 (x2 + (1 : Int32)) (x3 + (1 : Int32)) (upd w_t_left x2.toNatClampNeg (w_t_left x3.toNatClampNeg)) _ _ _ hw (lv_sub hl [4, 5, 1, 0] rfl) hf
                  · have hf := (if_neg c49).symm.trans hf
                    refine lv_iload hx hb dX0_takeOut_79 (lv_at hl 0 rfl) ?_
                    refine lv_if_eq (tgt := 93) hx hb dX0_takeOut_81 (by decide) (fun c52 => ?_) (fun c52 => ?_)
                    · have hf := (if_pos c52).symm.trans hf
                      refine lv_aload_n hx hb dX0_takeOut_93 rfl (lv_at hl 2 rfl) ?_
                      refine g_get (ci := 0) (C := RX0) (T := TX0) (N := 2) S hinX0 hK hw 0 0 k9 dX0_takeOut_94 rfl rfl (by decide) rfl ?_
                      refine lv_iload_n hx hb dX0_takeOut_97 rfl (lv_at hl 4 rfl) ?_
                      refine lv_aload_n hx hb dX0_takeOut_98 rfl (lv_at hl 2 rfl) ?_
                      refine g_get (ci := 0) (C := RX0) (T := TX0) (N := 2) S hinX0 hK hw 0 0 k9 dX0_takeOut_99 rfl rfl (by decide) rfl ?_
                      refine lv_iload_n hx hb dX0_takeOut_102 rfl (lv_at hl 5 rfl) ?_
                      obtain ⟨b53, hf⟩ := ck_some hf
                      refine g_iald S hK hw 1 0 b53 dX0_takeOut_103 rfl rfl ?_
                      obtain ⟨b54, hf⟩ := ck_some hf
                      refine g_iast (ws' := [(q_t, .inr (0, [.ref q_t_left, .int w_t_size])), (q_t_left, .inl (cI, 240, .inl (upd w_t_left x2.toNatClampNeg (w_t_left x3.toNatClampNeg))))]) S hK hw 1 0 b54 dX0_takeOut_104 rfl rfl rfl (fun H locs hw => ?_)
                      refine lv_iinc (v := (x2 + (1 : Int32))) (lv' := [(2, .int (x2 + (1 : Int32))), (5, .int (0 : Int32)), (4, .int (1 : Int32)), (0, .ref q_t), (1, .int x1), (3, .int x3)]) hx hb dX0_takeOut_105 hl (k := 4) rfl rfl (by decide) rfl (fun ls hl => ?_)
                      refine lv_iinc (v := (x3 + (1 : Int32))) (lv' := [(3, .int (x3 + (1 : Int32))), (2, .int (x2 + (1 : Int32))), (5, .int (0 : Int32)), (4, .int (1 : Int32)), (0, .ref q_t), (1, .int x1)]) hx hb dX0_takeOut_108 hl (k := 5) rfl rfl (by decide) rfl (fun ls hl => ?_)
                      refine lv_goto (tgt := 6) hx hb dX0_takeOut_111 (by decide) ?_
                      exact ih x1 (x2 + (1 : Int32)) (x3 + (1 : Int32)) (upd w_t_left x2.toNatClampNeg (w_t_left x3.toNatClampNeg)) _ _ _ hw (lv_sub hl [4, 5, 1, 0] rfl) hf
                    · have hf := (if_neg c52).symm.trans hf
                      refine lv_iinc (v := (x1 + (1 : Int32))) (lv' := [(1, .int (x1 + (1 : Int32))), (5, .int (0 : Int32)), (4, .int (1 : Int32)), (0, .ref q_t), (2, .int x2), (3, .int x3)]) hx hb dX0_takeOut_84 hl (k := 3) rfl rfl (by decide) rfl (fun ls hl => ?_)
                      refine lv_iinc (v := (x3 + (2 : Int32))) (lv' := [(3, .int (x3 + (2 : Int32))), (1, .int (x1 + (1 : Int32))), (5, .int (0 : Int32)), (4, .int (1 : Int32)), (0, .ref q_t), (2, .int x2)]) hx hb dX0_takeOut_87 hl (k := 5) rfl rfl (by decide) rfl (fun ls hl => ?_)
                      refine lv_goto (tgt := 111) hx hb dX0_takeOut_90 (by decide) ?_
                      refine lv_goto (tgt := 6) hx hb dX0_takeOut_111 (by decide) ?_
                      exact ih (x1 + (1 : Int32)) x2 (x3 + (2 : Int32)) w_t_left _ _ _ hw (lv_sub hl [4, 1, 5, 0] rfl) hf
                · have hf := (if_pos c48).symm.trans hf
                  refine lv_iconst (v := (1 : Int32)) hx hb dX0_takeOut_67 (by decide) ?_
                  refine lv_goto (tgt := 72) hx hb dX0_takeOut_68 (by decide) ?_
                  refine lv_istore (lv' := [(5, .int (1 : Int32)), (4, .int (1 : Int32)), (0, .ref q_t), (1, .int x1), (2, .int x2), (3, .int x3)]) hx hb dX0_takeOut_72 hl (by decide) rfl (fun ls hl => ?_)
                  refine lv_iload hx hb dX0_takeOut_74 (lv_at hl 1 rfl) ?_
                  refine lv_if_eq (tgt := 93) hx hb dX0_takeOut_76 (by decide) (fun c55 => ?_) (fun c55 => ?_)
                  · have hf := (if_pos c55).symm.trans hf
                    refine lv_aload_n hx hb dX0_takeOut_93 rfl (lv_at hl 2 rfl) ?_
                    refine g_get (ci := 0) (C := RX0) (T := TX0) (N := 2) S hinX0 hK hw 0 0 k9 dX0_takeOut_94 rfl rfl (by decide) rfl ?_
                    refine lv_iload_n hx hb dX0_takeOut_97 rfl (lv_at hl 4 rfl) ?_
                    refine lv_aload_n hx hb dX0_takeOut_98 rfl (lv_at hl 2 rfl) ?_
                    refine g_get (ci := 0) (C := RX0) (T := TX0) (N := 2) S hinX0 hK hw 0 0 k9 dX0_takeOut_99 rfl rfl (by decide) rfl ?_
                    refine lv_iload_n hx hb dX0_takeOut_102 rfl (lv_at hl 5 rfl) ?_
                    obtain ⟨b56, hf⟩ := ck_some hf
                    refine g_iald S hK hw 1 0 b56 dX0_takeOut_103 rfl rfl ?_
                    obtain ⟨b57, hf⟩ := ck_some hf
                    refine g_iast (ws' := [(q_t, .inr (0, [.ref q_t_left, .int w_t_size])), (q_t_left, .inl (cI, 240, .inl (upd w_t_left x2.toNatClampNeg (w_t_left x3.toNatClampNeg))))]) S hK hw 1 0 b57 dX0_takeOut_104 rfl rfl rfl (fun H locs hw => ?_)
                    refine lv_iinc (v := (x2 + (1 : Int32))) (lv' := [(2, .int (x2 + (1 : Int32))), (5, .int (1 : Int32)), (4, .int (1 : Int32)), (0, .ref q_t), (1, .int x1), (3, .int x3)]) hx hb dX0_takeOut_105 hl (k := 4) rfl rfl (by decide) rfl (fun ls hl => ?_)
                    refine lv_iinc (v := (x3 + (1 : Int32))) (lv' := [(3, .int (x3 + (1 : Int32))), (2, .int (x2 + (1 : Int32))), (5, .int (1 : Int32)), (4, .int (1 : Int32)), (0, .ref q_t), (1, .int x1)]) hx hb dX0_takeOut_108 hl (k := 5) rfl rfl (by decide) rfl (fun ls hl => ?_)
                    refine lv_goto (tgt := 6) hx hb dX0_takeOut_111 (by decide) ?_
                    exact ih x1 (x2 + (1 : Int32)) (x3 + (1 : Int32)) (upd w_t_left x2.toNatClampNeg (w_t_left x3.toNatClampNeg)) _ _ _ hw (lv_sub hl [4, 5, 1, 0] rfl) hf
                  · have hf := (if_neg c55).symm.trans hf
                    refine lv_iload hx hb dX0_takeOut_79 (lv_at hl 0 rfl) ?_
                    refine lv_if_eq (tgt := 93) hx hb dX0_takeOut_81 (by decide) (fun c58 => ?_) (fun c58 => ?_)
                    · have hf := (if_pos c58).symm.trans hf
                      refine lv_aload_n hx hb dX0_takeOut_93 rfl (lv_at hl 2 rfl) ?_
                      refine g_get (ci := 0) (C := RX0) (T := TX0) (N := 2) S hinX0 hK hw 0 0 k9 dX0_takeOut_94 rfl rfl (by decide) rfl ?_
                      refine lv_iload_n hx hb dX0_takeOut_97 rfl (lv_at hl 4 rfl) ?_
                      refine lv_aload_n hx hb dX0_takeOut_98 rfl (lv_at hl 2 rfl) ?_
                      refine g_get (ci := 0) (C := RX0) (T := TX0) (N := 2) S hinX0 hK hw 0 0 k9 dX0_takeOut_99 rfl rfl (by decide) rfl ?_
                      refine lv_iload_n hx hb dX0_takeOut_102 rfl (lv_at hl 5 rfl) ?_
                      obtain ⟨b59, hf⟩ := ck_some hf
                      refine g_iald S hK hw 1 0 b59 dX0_takeOut_103 rfl rfl ?_
                      obtain ⟨b60, hf⟩ := ck_some hf
                      refine g_iast (ws' := [(q_t, .inr (0, [.ref q_t_left, .int w_t_size])), (q_t_left, .inl (cI, 240, .inl (upd w_t_left x2.toNatClampNeg (w_t_left x3.toNatClampNeg))))]) S hK hw 1 0 b60 dX0_takeOut_104 rfl rfl rfl (fun H locs hw => ?_)
                      refine lv_iinc (v := (x2 + (1 : Int32))) (lv' := [(2, .int (x2 + (1 : Int32))), (5, .int (1 : Int32)), (4, .int (1 : Int32)), (0, .ref q_t), (1, .int x1), (3, .int x3)]) hx hb dX0_takeOut_105 hl (k := 4) rfl rfl (by decide) rfl (fun ls hl => ?_)
                      refine lv_iinc (v := (x3 + (1 : Int32))) (lv' := [(3, .int (x3 + (1 : Int32))), (2, .int (x2 + (1 : Int32))), (5, .int (1 : Int32)), (4, .int (1 : Int32)), (0, .ref q_t), (1, .int x1)]) hx hb dX0_takeOut_108 hl (k := 5) rfl rfl (by decide) rfl (fun ls hl => ?_)
                      refine lv_goto (tgt := 6) hx hb dX0_takeOut_111 (by decide) ?_
                      exact ih x1 (x2 + (1 : Int32)) (x3 + (1 : Int32)) (upd w_t_left x2.toNatClampNeg (w_t_left x3.toNatClampNeg)) _ _ _ hw (lv_sub hl [4, 5, 1, 0] rfl) hf
                    · have hf := (if_neg c58).symm.trans hf
                      refine lv_iinc (v := (x1 + (1 : Int32))) (lv' := [(1, .int (x1 + (1 : Int32))), (5, .int (1 : Int32)), (4, .int (1 : Int32)), (0, .ref q_t), (2, .int x2), (3, .int x3)]) hx hb dX0_takeOut_84 hl (k := 3) rfl rfl (by decide) rfl (fun ls hl => ?_)
                      refine lv_iinc (v := (x3 + (2 : Int32))) (lv' := [(3, .int (x3 + (2 : Int32))), (1, .int (x1 + (1 : Int32))), (5, .int (1 : Int32)), (4, .int (1 : Int32)), (0, .ref q_t), (2, .int x2)]) hx hb dX0_takeOut_87 hl (k := 5) rfl rfl (by decide) rfl (fun ls hl => ?_)
                      refine lv_goto (tgt := 111) hx hb dX0_takeOut_90 (by decide) ?_
                      refine lv_goto (tgt := 6) hx hb dX0_takeOut_111 (by decide) ?_
                      exact ih (x1 + (1 : Int32)) x2 (x3 + (2 : Int32)) w_t_left _ _ _ hw (lv_sub hl [4, 1, 5, 0] rfl) hf
  unfold f_X0_takeOut at hf
  refine lv_iconst (v := (0 : Int32)) hx hb dX0_takeOut_0 (by decide) ?_
  refine lv_istore_n (lv' := [(1, .int (0 : Int32)), (0, .ref q_t)]) hx hb dX0_takeOut_1 rfl hl (by decide) rfl (fun ls hl => ?_)
  refine lv_iconst (v := (0 : Int32)) hx hb dX0_takeOut_2 (by decide) ?_
  refine lv_istore_n (lv' := [(2, .int (0 : Int32)), (1, .int (0 : Int32)), (0, .ref q_t)]) hx hb dX0_takeOut_3 rfl hl (by decide) rfl (fun ls hl => ?_)
  refine lv_iconst (v := (0 : Int32)) hx hb dX0_takeOut_4 (by decide) ?_
  refine lv_istore_n (lv' := [(3, .int (0 : Int32)), (2, .int (0 : Int32)), (1, .int (0 : Int32)), (0, .ref q_t)]) hx hb dX0_takeOut_5 rfl hl (by decide) rfl (fun ls hl => ?_)
  refine Lp6 t_size _ (fun y61 y62 u63 H locs ls hw hl hf => ?_) N (0 : Int32) (0 : Int32) (0 : Int32) t_left _ _ _ hw (lv_sub hl [3, 2, 1, 0] rfl) hf
  refine lv_aload_n hx hb dX0_takeOut_114 rfl (lv_at hl 0 rfl) ?_
  refine lv_iload_n hx hb dX0_takeOut_115 rfl (lv_at hl 2 rfl) ?_
  refine g_put (ci := 0) (C := RX0) (T := TX0) (N := 2) (ws' := [(q_t, .inr (0, [.ref q_t_left, .int y62])), (q_t_left, .inl (cI, 240, .inl u63))]) S hinX0 tyX0 tyX0_ok nmX0 hK hw 0 1 k29 dX0_takeOut_116 rfl rfl (by decide) rfl rfl rfl (Nat.le_of_ble_eq_true rfl) rfl (fun H locs hw => ?_)
  refine lv_iload_n hx hb dX0_takeOut_119 rfl (lv_at hl 1 rfl) ?_
  obtain ⟨rfl, rfl, rfl⟩ := pr3 (Option.some.inj hf)
  exact rt_i S hr hlk hw dX0_takeOut_120

def f_X0_heapsOf (N : Nat)  (t_size : Int32) (t_left : (Nat → Int32)) (a1_boxes : (Nat → Int32)) : Option (Int32 × Int32 × (Nat → Int32)) :=
  (bd2 (f_X0_begin N t_size t_left a1_boxes) (fun u1 u2 => (bd3 (f_X0_takeOut N u1 u2) (fun r4 u5 u6 => (some (r4, u5, u6))))))

set_option maxHeartbeats 4000000 in
set_option maxRecDepth 100000 in
theorem c_X0_heapsOf (l : Launch) (D : va_G) (cI cZ cJ cO : ClassId) (sz : Nat) (q_t q_t_left q_a1 q_a1_boxes q_a1_made : Nat) (N : Nat)  (t_size : Int32) (t_left : (Nat → Int32)) (a1_boxes : (Nat → Int32)) (r : Int32) (o_t_size : Int32) (o_t_left : (Nat → Int32)) (hf : f_X0_heapsOf N t_size t_left a1_boxes = some (r, o_t_size, o_t_left)) : Met l yX0_heapsOf wsX0_heapsOf ({ frames := 3, cells := 0, slots := 0, locals := 63 }) (PreC D (TY cI cZ cJ cO) [.ref q_t, .ref q_a1] [(q_t, .inr (0, [.ref q_t_left, .int t_size])), (q_t_left, .inl (cI, 240, .inl t_left)), (q_a1, .inr (3, [.ref q_a1_boxes, .ref q_a1_made])), (q_a1_boxes, .inl (cI, 240, .inl a1_boxes))] sz) (QcI D [(q_t, .inr (0, [.ref q_t_left, .int o_t_size])), (q_t_left, .inl (cI, 240, .inl o_t_left)), (q_a1, .inr (3, [.ref q_a1_boxes, .ref q_a1_made])), (q_a1_boxes, .inl (cI, 240, .inl a1_boxes))] (va_A [(q_t, .inr (0, [.ref q_t_left, .int t_size])), (q_t_left, .inl (cI, 240, .inl t_left)), (q_a1, .inr (3, [.ref q_a1_boxes, .ref q_a1_made])), (q_a1_boxes, .inl (cI, 240, .inl a1_boxes))] sz) r) 0 0 (va_A [(q_t, .inr (0, [.ref q_t_left, .int t_size])), (q_t_left, .inl (cI, 240, .inl t_left)), (q_a1, .inr (3, [.ref q_a1_boxes, .ref q_a1_made])), (q_a1_boxes, .inl (cI, 240, .inl a1_boxes))] sz) := by
  refine ctr (cc := cX0_heapsOf) (maxL := 2) (ret := (some .int)) (by decide) rfl (Nat.le_of_ble_eq_true rfl) ?_
  intro p e s m below meth c S hr hlk hnm hK hN hsz hA hw ls hl
  generalize va_A [(q_t, .inr (0, [.ref q_t_left, .int t_size])), (q_t_left, .inl (cI, 240, .inl t_left)), (q_a1, .inr (3, [.ref q_a1_boxes, .ref q_a1_made])), (q_a1_boxes, .inl (cI, 240, .inl a1_boxes))] sz = A at hA hw ⊢
  have S : CallFix p m c cX0_heapsOf 2 s ([.ref q_t, .ref q_a1] : List Value).toArray wsX0_heapsOf RX0 := S
  have hx := S.1
  have hb := S.2.1
  have hts := S.2.2.2.2
  have hl : lv_has ls 2 [(0, .ref q_t), (1, .ref q_a1)] := hl
  unfold f_X0_heapsOf at hf
  refine lv_aload_n hx hb dX0_heapsOf_0 rfl (lv_at hl 0 rfl) ?_
  refine lv_aload_n hx hb dX0_heapsOf_1 rfl (lv_at hl 1 rfl) ?_
  obtain ⟨u1, u2, h3, hf⟩ := bd2_some hf
  refine cl_v (wr := []) (ws' := [(q_t, .inr (0, [.ref q_t_left, .int u1])), (q_t_left, .inl (cI, 240, .inl u2)), (q_a1, .inr (3, [.ref q_a1_boxes, .ref q_a1_made])), (q_a1_boxes, .inl (cI, 240, .inl a1_boxes))]) hA hw [0, 1, 2, 3] [] [0, 1, 2, 3] rfl rfl rfl (by decide) rfl rfl (va_runV (As := [.ref q_a1]) (rest := []) S (c_X0_begin l D cI cZ cJ cO _ q_t q_t_left q_a1 q_a1_boxes q_a1_made N t_size t_left a1_boxes u1 u2 h3) (cwV 1 hts gX0_heapsOf_X0_begin rfl rfl rfl (by decide +kernel) ⟨Nat.le_of_ble_eq_true rfl, Nat.le_of_ble_eq_true rfl⟩) (pre_V hK hN hw [0, 1, 2, 3] rfl rfl (C := RX0) (T := TX0) (N := 2) (ci := 0) (q0 := 0) rfl rfl) rfl rfl hl.1 rfl (lv_room (Nat.le_of_ble_eq_true rfl)) dX0_heapsOf_2 ⟨Nat.zero_le _, Nat.zero_le _⟩) (fun H locs hw => ?_)
  refine lv_aload_n hx hb dX0_heapsOf_5 rfl (lv_at hl 0 rfl) ?_
  obtain ⟨r4, u5, u6, h7, hf⟩ := bd3_some hf
  refine cl_i (wr := [(q_a1, .inr (3, [.ref q_a1_boxes, .ref q_a1_made])), (q_a1_boxes, .inl (cI, 240, .inl a1_boxes))]) (ws' := [(q_t, .inr (0, [.ref q_t_left, .int u5])), (q_t_left, .inl (cI, 240, .inl u6)), (q_a1, .inr (3, [.ref q_a1_boxes, .ref q_a1_made])), (q_a1_boxes, .inl (cI, 240, .inl a1_boxes))]) hA hw [0, 1] [2, 3] [2, 3, 0, 1] rfl rfl rfl (by decide) rfl rfl (va_runV (As := []) (rest := []) S (c_X0_takeOut l D cI cZ cJ cO _ q_t q_t_left N u1 u2 r4 u5 u6 h7) (cwV 0 hts gX0_heapsOf_X0_takeOut rfl rfl rfl (by decide +kernel) ⟨Nat.le_of_ble_eq_true rfl, Nat.le_of_ble_eq_true rfl⟩) (pre_V hK hN hw [0, 1] rfl rfl (C := RX0) (T := TX0) (N := 2) (ci := 0) (q0 := 0) rfl rfl) rfl rfl hl.1 rfl (lv_room (Nat.le_of_ble_eq_true rfl)) dX0_heapsOf_6 ⟨Nat.zero_le _, Nat.zero_le _⟩) (fun H locs hw => ?_)
  obtain ⟨rfl, rfl, rfl⟩ := pr3 (Option.some.inj hf)
  exact rt_i S hr hlk hw dX0_heapsOf_9

def L_X0_countsAbove_10 (N : Nat) (x2 : Int32) (K : Int32 → Int32 → (Nat → Int32) → Option (Int32 × Int32 × (Nat → Int32))) : Nat → Int32 → Int32 → Int32 → (Nat → Int32) → Option (Int32 × Int32 × (Nat → Int32))
  | 0, _, _, _, _ => none
  | n + 1, x3, x4, w_t_size, w_t_left => (if (240 : Int32) ≤ x4 then (K x3 w_t_size w_t_left) else (bd3 (f_X0_takeOut N w_t_size w_t_left) (fun r5 u6 u7 => (if x2 < r5 then (L_X0_countsAbove_10 N x2 K n (x3 + (1 : Int32)) (x4 + (1 : Int32)) u6 u7) else (K x3 u6 u7)))))

def f_X0_countsAbove (N : Nat) (p2 : Int32) (t_size : Int32) (t_left : (Nat → Int32)) (a1_boxes : (Nat → Int32)) : Option (Int32 × Int32 × (Nat → Int32)) :=
  (bd2 (f_X0_begin N t_size t_left a1_boxes) (fun u1 u2 => (L_X0_countsAbove_10 N p2 (fun y10 u11 u12 => (some (y10, u11, u12))) N (0 : Int32) (0 : Int32) u1 u2)))

set_option maxHeartbeats 4000000 in
set_option maxRecDepth 100000 in
theorem c_X0_countsAbove (l : Launch) (D : va_G) (cI cZ cJ cO : ClassId) (sz : Nat) (q_t q_t_left q_a1 q_a1_boxes q_a1_made : Nat) (N : Nat) (p2 : Int32) (t_size : Int32) (t_left : (Nat → Int32)) (a1_boxes : (Nat → Int32)) (r : Int32) (o_t_size : Int32) (o_t_left : (Nat → Int32)) (hf : f_X0_countsAbove N p2 t_size t_left a1_boxes = some (r, o_t_size, o_t_left)) : Met l yX0_countsAbove wsX0_countsAbove ({ frames := 3, cells := 0, slots := 0, locals := 63 }) (PreC D (TY cI cZ cJ cO) [.ref q_t, .ref q_a1, .int p2] [(q_t, .inr (0, [.ref q_t_left, .int t_size])), (q_t_left, .inl (cI, 240, .inl t_left)), (q_a1, .inr (3, [.ref q_a1_boxes, .ref q_a1_made])), (q_a1_boxes, .inl (cI, 240, .inl a1_boxes))] sz) (QcI D [(q_t, .inr (0, [.ref q_t_left, .int o_t_size])), (q_t_left, .inl (cI, 240, .inl o_t_left)), (q_a1, .inr (3, [.ref q_a1_boxes, .ref q_a1_made])), (q_a1_boxes, .inl (cI, 240, .inl a1_boxes))] (va_A [(q_t, .inr (0, [.ref q_t_left, .int t_size])), (q_t_left, .inl (cI, 240, .inl t_left)), (q_a1, .inr (3, [.ref q_a1_boxes, .ref q_a1_made])), (q_a1_boxes, .inl (cI, 240, .inl a1_boxes))] sz) r) 0 0 (va_A [(q_t, .inr (0, [.ref q_t_left, .int t_size])), (q_t_left, .inl (cI, 240, .inl t_left)), (q_a1, .inr (3, [.ref q_a1_boxes, .ref q_a1_made])), (q_a1_boxes, .inl (cI, 240, .inl a1_boxes))] sz) := by
  refine ctr (cc := cX0_countsAbove) (maxL := 5) (ret := (some .int)) (by decide) rfl (Nat.le_of_ble_eq_true rfl) ?_
  intro p e s m below meth c S hr hlk hnm hK hN hsz hA hw ls hl
  generalize va_A [(q_t, .inr (0, [.ref q_t_left, .int t_size])), (q_t_left, .inl (cI, 240, .inl t_left)), (q_a1, .inr (3, [.ref q_a1_boxes, .ref q_a1_made])), (q_a1_boxes, .inl (cI, 240, .inl a1_boxes))] sz = A at hA hw ⊢
  have S : CallFix p m c cX0_countsAbove 5 s ([.ref q_t, .ref q_a1, .int p2] : List Value).toArray wsX0_countsAbove RX0 := S
  have hx := S.1
  have hb := S.2.1
  have hts := S.2.2.2.2
  have hl : lv_has ls 5 [(0, .ref q_t), (1, .ref q_a1), (2, .int p2)] := hl
  have Lp10 : ∀ (x2 : Int32) (K : Int32 → Int32 → (Nat → Int32) → Option (Int32 × Int32 × (Nat → Int32))), (∀ (z3 : Int32) (z_t_size : Int32) (z_t_left : (Nat → Int32)) (H : Heap) (locs : List Loc) (ls : Array Slot), Wd D A s.heap [(q_t, .inr (0, [.ref q_t_left, .int z_t_size])), (q_t_left, .inl (cI, 240, .inl z_t_left)), (q_a1, .inr (3, [.ref q_a1_boxes, .ref q_a1_made])), (q_a1_boxes, .inl (cI, 240, .inl a1_boxes))] H locs → lv_has ls 5 [(3, .int z3)] → K z3 z_t_size z_t_left = some (r, o_t_size, o_t_left) → W p l e ({ frames := 3, cells := 0, slots := 0, locals := 63 } : Room) s m ([.ref q_t, .ref q_a1, .int p2] : List Value).toArray below meth c H locs 0 0 (MQ below (QcI D [(q_t, .inr (0, [.ref q_t_left, .int o_t_size])), (q_t_left, .inl (cI, 240, .inl o_t_left)), (q_a1, .inr (3, [.ref q_a1_boxes, .ref q_a1_made])), (q_a1_boxes, .inl (cI, 240, .inl a1_boxes))] A r) ([.ref q_t, .ref q_a1, .int p2] : List Value).toArray s 0 0 A) (F0 m 38 ls [])) → ∀ (n : Nat) (x3 : Int32) (x4 : Int32) (w_t_size : Int32) (w_t_left : (Nat → Int32)) (H : Heap) (locs : List Loc) (ls : Array Slot), Wd D A s.heap [(q_t, .inr (0, [.ref q_t_left, .int w_t_size])), (q_t_left, .inl (cI, 240, .inl w_t_left)), (q_a1, .inr (3, [.ref q_a1_boxes, .ref q_a1_made])), (q_a1_boxes, .inl (cI, 240, .inl a1_boxes))] H locs → lv_has ls 5 [(0, .ref q_t), (2, .int x2), (3, .int x3), (4, .int x4)] → L_X0_countsAbove_10 N x2 K n x3 x4 w_t_size w_t_left = some (r, o_t_size, o_t_left) → W p l e ({ frames := 3, cells := 0, slots := 0, locals := 63 } : Room) s m ([.ref q_t, .ref q_a1, .int p2] : List Value).toArray below meth c H locs 0 0 (MQ below (QcI D [(q_t, .inr (0, [.ref q_t_left, .int o_t_size])), (q_t_left, .inl (cI, 240, .inl o_t_left)), (q_a1, .inr (3, [.ref q_a1_boxes, .ref q_a1_made])), (q_a1_boxes, .inl (cI, 240, .inl a1_boxes))] A r) ([.ref q_t, .ref q_a1, .int p2] : List Value).toArray s 0 0 A) (F0 m 10 ls []) := by
    intro x2 K hKx n
    induction n with
    | zero =>
      intro x3 x4 w_t_size w_t_left H locs ls hw hl hf
      rw [L_X0_countsAbove_10] at hf
      cases hf
    | succ n ih =>
      intro x3 x4 w_t_size w_t_left H locs ls hw hl hf
      rw [L_X0_countsAbove_10] at hf
      refine lv_iload hx hb dX0_countsAbove_10 (lv_at hl 3 rfl) ?_
      refine lv_sipush (v := (240 : Int32)) hx hb dX0_countsAbove_12 (by decide) ?_
      refine lv_icmp_ge (tgt := 38) hx hb dX0_countsAbove_15 (by decide) (fun c4 => ?_) (fun c4 => ?_)
      · have hf := (if_pos c4).symm.trans hf
        exact hKx x3 w_t_size w_t_left _ _ _ hw (lv_sub hl [2] rfl) hf
      · have hf := (if_neg c4).symm.trans hf
        refine lv_aload_n hx hb dX0_countsAbove_18 rfl (lv_at hl 0 rfl) ?_
        obtain ⟨r5, u6, u7, h8, hf⟩ := bd3_some hf
        refine cl_i (wr := [(q_a1, .inr (3, [.ref q_a1_boxes, .ref q_a1_made])), (q_a1_boxes, .inl (cI, 240, .inl a1_boxes))]) (ws' := [(q_t, .inr (0, [.ref q_t_left, .int u6])), (q_t_left, .inl (cI, 240, .inl u7)), (q_a1, .inr (3, [.ref q_a1_boxes, .ref q_a1_made])), (q_a1_boxes, .inl (cI, 240, .inl a1_boxes))]) hA hw [0, 1] [2, 3] [2, 3, 0, 1] rfl rfl rfl (by decide) rfl rfl (va_runV (As := []) (rest := []) S (c_X0_takeOut l D cI cZ cJ cO _ q_t q_t_left N w_t_size w_t_left r5 u6 u7 h8) (cwV 0 hts gX0_countsAbove_X0_takeOut rfl rfl rfl (by decide +kernel) ⟨Nat.le_of_ble_eq_true rfl, Nat.le_of_ble_eq_true rfl⟩) (pre_V hK hN hw [0, 1] rfl rfl (C := RX0) (T := TX0) (N := 2) (ci := 0) (q0 := 0) rfl rfl) rfl rfl hl.1 rfl (lv_room (Nat.le_of_ble_eq_true rfl)) dX0_countsAbove_19 ⟨Nat.zero_le _, Nat.zero_le _⟩) (fun H locs hw => ?_)
        refine lv_iload_n hx hb dX0_countsAbove_22 rfl (lv_at hl 1 rfl) ?_
        refine lv_icmp_gt (tgt := 29) hx hb dX0_countsAbove_23 (by decide) (fun c9 => ?_) (fun c9 => ?_)
        · have hf := (if_pos c9).symm.trans hf
          refine lv_iinc (v := (x3 + (1 : Int32))) (lv' := [(3, .int (x3 + (1 : Int32))), (0, .ref q_t), (2, .int x2), (4, .int x4)]) hx hb dX0_countsAbove_29 hl (k := 2) rfl rfl (by decide) rfl (fun ls hl => ?_)
          refine lv_iinc (v := (x4 + (1 : Int32))) (lv' := [(4, .int (x4 + (1 : Int32))), (3, .int (x3 + (1 : Int32))), (0, .ref q_t), (2, .int x2)]) hx hb dX0_countsAbove_32 hl (k := 3) rfl rfl (by decide) rfl (fun ls hl => ?_)
          refine lv_goto (tgt := 10) hx hb dX0_countsAbove_35 (by decide) ?_
          exact ih (x3 + (1 : Int32)) (x4 + (1 : Int32)) u6 u7 _ _ _ hw (lv_sub hl [2, 3, 1, 0] rfl) hf
        · have hf := (if_neg c9).symm.trans hf
          refine lv_goto (tgt := 38) hx hb dX0_countsAbove_26 (by decide) ?_
          exact hKx x3 u6 u7 _ _ _ hw (lv_sub hl [2] rfl) hf
  unfold f_X0_countsAbove at hf
  refine lv_aload_n hx hb dX0_countsAbove_0 rfl (lv_at hl 0 rfl) ?_
  refine lv_aload_n hx hb dX0_countsAbove_1 rfl (lv_at hl 1 rfl) ?_
  obtain ⟨u1, u2, h3, hf⟩ := bd2_some hf
  refine cl_v (wr := []) (ws' := [(q_t, .inr (0, [.ref q_t_left, .int u1])), (q_t_left, .inl (cI, 240, .inl u2)), (q_a1, .inr (3, [.ref q_a1_boxes, .ref q_a1_made])), (q_a1_boxes, .inl (cI, 240, .inl a1_boxes))]) hA hw [0, 1, 2, 3] [] [0, 1, 2, 3] rfl rfl rfl (by decide) rfl rfl (va_runV (As := [.ref q_a1]) (rest := []) S (c_X0_begin l D cI cZ cJ cO _ q_t q_t_left q_a1 q_a1_boxes q_a1_made N t_size t_left a1_boxes u1 u2 h3) (cwV 1 hts gX0_countsAbove_X0_begin rfl rfl rfl (by decide +kernel) ⟨Nat.le_of_ble_eq_true rfl, Nat.le_of_ble_eq_true rfl⟩) (pre_V hK hN hw [0, 1, 2, 3] rfl rfl (C := RX0) (T := TX0) (N := 2) (ci := 0) (q0 := 0) rfl rfl) rfl rfl hl.1 rfl (lv_room (Nat.le_of_ble_eq_true rfl)) dX0_countsAbove_2 ⟨Nat.zero_le _, Nat.zero_le _⟩) (fun H locs hw => ?_)
  refine lv_iconst (v := (0 : Int32)) hx hb dX0_countsAbove_5 (by decide) ?_
  refine lv_istore_n (lv' := [(3, .int (0 : Int32)), (0, .ref q_t), (1, .ref q_a1), (2, .int p2)]) hx hb dX0_countsAbove_6 rfl hl (by decide) rfl (fun ls hl => ?_)
  refine lv_iconst (v := (0 : Int32)) hx hb dX0_countsAbove_7 (by decide) ?_
  refine lv_istore (lv' := [(4, .int (0 : Int32)), (3, .int (0 : Int32)), (0, .ref q_t), (1, .ref q_a1), (2, .int p2)]) hx hb dX0_countsAbove_8 hl (by decide) rfl (fun ls hl => ?_)
  refine Lp10 p2 _ (fun y10 u11 u12 H locs ls hw hl hf => ?_) N (0 : Int32) (0 : Int32) u1 u2 _ _ _ hw (lv_sub hl [2, 4, 1, 0] rfl) hf
  refine lv_iload_n hx hb dX0_countsAbove_38 rfl (lv_at hl 0 rfl) ?_
  obtain ⟨rfl, rfl, rfl⟩ := pr3 (Option.some.inj hf)
  exact rt_i S hr hlk hw dX0_countsAbove_39

def f_X1_become (_ : Nat) (p1 : Int32) (p2 : Int64) (t_size : Int32) (t_bits : Int64) : Option (Int32 × Int64) :=
  (some (p1, p2))

set_option maxHeartbeats 4000000 in
set_option maxRecDepth 100000 in
theorem c_X1_become (l : Launch) (D : va_G) (cI cZ cJ cO : ClassId) (sz : Nat) (q_t : Nat) (N : Nat) (p1 : Int32) (p2 : Int64) (t_size : Int32) (t_bits : Int64) (t_made : Int64) (t_carrierHas : Int32) (o_t_size : Int32) (o_t_bits : Int64) (hf : f_X1_become N p1 p2 t_size t_bits = some (o_t_size, o_t_bits)) : Met l yX1_become wsX1_become ({ frames := 0, cells := 0, slots := 0, locals := 0 }) (PreC D (TY cI cZ cJ cO) [.ref q_t, .int p1, .long p2] [(q_t, .inr (1, [.int t_size, .long t_bits, .long t_made, .int t_carrierHas]))] sz) (QcV D [(q_t, .inr (1, [.int o_t_size, .long o_t_bits, .long t_made, .int t_carrierHas]))] (va_A [(q_t, .inr (1, [.int t_size, .long t_bits, .long t_made, .int t_carrierHas]))] sz)) 0 0 (va_A [(q_t, .inr (1, [.int t_size, .long t_bits, .long t_made, .int t_carrierHas]))] sz) := by
  refine ctr (cc := cX1_become) (maxL := 4) (ret := none) (by decide) rfl (Nat.le_of_ble_eq_true rfl) ?_
  intro p e s m below meth c S hr hlk hnm hK hN hsz hA hw ls hl
  generalize va_A [(q_t, .inr (1, [.int t_size, .long t_bits, .long t_made, .int t_carrierHas]))] sz = A at hA hw ⊢
  have S : CallFix p m c cX1_become 4 s ([.ref q_t, .int p1, .long p2] : List Value).toArray wsX1_become RX1 := S
  have hx := S.1
  have hb := S.2.1
  have hts := S.2.2.2.2
  have hl : lv_has ls 4 [(0, .ref q_t), (1, .int p1), (2, .long p2)] := hl
  have hinX1 : ∀ w ∈ u_ws RX1 TX1 4, w ∈ wsX1_become := by decide +kernel
  have k7 : Cond.fieldLink RX1 7 "BallBoxes$Ring" "size" "I" ∈ wsX1_become := by decide +kernel
  have k13 : Cond.fieldLink RX1 13 "BallBoxes$Ring" "bits" "J" ∈ wsX1_become := by decide +kernel
  unfold f_X1_become at hf
  refine lv_aload_n hx hb dX1_become_0 rfl (lv_at hl 0 rfl) ?_
  refine lv_iload_n hx hb dX1_become_1 rfl (lv_at hl 1 rfl) ?_
  refine g_put (ci := 1) (C := RX1) (T := TX1) (N := 4) (ws' := [(q_t, .inr (1, [.int p1, .long t_bits, .long t_made, .int t_carrierHas]))]) S hinX1 tyX1 tyX1_ok nmX1 hK hw 0 0 k7 dX1_become_2 rfl rfl (by decide) rfl rfl rfl (Nat.le_of_ble_eq_true rfl) rfl (fun H locs hw => ?_)
  refine lv_aload_n hx hb dX1_become_5 rfl (lv_at hl 0 rfl) ?_
  refine lv_lload_n hx hb dX1_become_6 rfl (lv_at hl 2 rfl) ?_
  refine g_put (ci := 1) (C := RX1) (T := TX1) (N := 4) (ws' := [(q_t, .inr (1, [.int p1, .long p2, .long t_made, .int t_carrierHas]))]) S hinX1 tyX1 tyX1_ok nmX1 hK hw 0 1 k13 dX1_become_7 rfl rfl (by decide) rfl rfl rfl (Nat.le_of_ble_eq_true rfl) rfl (fun H locs hw => ?_)
  obtain ⟨rfl, rfl⟩ := pr2 (Option.some.inj hf)
  exact rt_v S hr hlk hw dX1_become_10

def f_X1_isRingBox (_ : Nat) (p1 : Int32) (t_size : Int32) : Option (Int32) :=
  (if p1 < (0 : Int32) then (some (0 : Int32)) else (if t_size ≤ p1 then (some (0 : Int32)) else (some (1 : Int32))))

set_option maxHeartbeats 4000000 in
set_option maxRecDepth 100000 in
theorem c_X1_isRingBox (l : Launch) (D : va_G) (cI cZ cJ cO : ClassId) (sz : Nat) (q_t : Nat) (N : Nat) (p1 : Int32) (t_size : Int32) (t_bits : Int64) (t_made : Int64) (t_carrierHas : Int32) (r : Int32) (hf : f_X1_isRingBox N p1 t_size = some r) : Met l yX1_isRingBox wsX1_isRingBox ({ frames := 0, cells := 0, slots := 0, locals := 0 }) (PreC D (TY cI cZ cJ cO) [.ref q_t, .int p1] [(q_t, .inr (1, [.int t_size, .long t_bits, .long t_made, .int t_carrierHas]))] sz) (QcI D [(q_t, .inr (1, [.int t_size, .long t_bits, .long t_made, .int t_carrierHas]))] (va_A [(q_t, .inr (1, [.int t_size, .long t_bits, .long t_made, .int t_carrierHas]))] sz) r) 0 0 (va_A [(q_t, .inr (1, [.int t_size, .long t_bits, .long t_made, .int t_carrierHas]))] sz) := by
  refine ctr (cc := cX1_isRingBox) (maxL := 2) (ret := (some .boolean)) (by decide) rfl (Nat.le_of_ble_eq_true rfl) ?_
  intro p e s m below meth c S hr hlk hnm hK hN hsz hA hw ls hl
  generalize va_A [(q_t, .inr (1, [.int t_size, .long t_bits, .long t_made, .int t_carrierHas]))] sz = A at hA hw ⊢
  have S : CallFix p m c cX1_isRingBox 2 s ([.ref q_t, .int p1] : List Value).toArray wsX1_isRingBox RX1 := S
  have hx := S.1
  have hb := S.2.1
  have hts := S.2.2.2.2
  have hl : lv_has ls 2 [(0, .ref q_t), (1, .int p1)] := hl
  have hinX1 : ∀ w ∈ u_ws RX1 TX1 4, w ∈ wsX1_isRingBox := by decide +kernel
  have k7 : Cond.fieldLink RX1 7 "BallBoxes$Ring" "size" "I" ∈ wsX1_isRingBox := by decide +kernel
  unfold f_X1_isRingBox at hf
  refine lv_iload_n hx hb dX1_isRingBox_0 rfl (lv_at hl 1 rfl) ?_
  refine lv_if_lt (tgt := 16) hx hb dX1_isRingBox_1 (by decide) (fun c1 => ?_) (fun c1 => ?_)
  · have hf := (if_pos c1).symm.trans hf
    refine lv_iconst (v := (0 : Int32)) hx hb dX1_isRingBox_16 (by decide) ?_
    obtain rfl := Option.some.inj hf
    exact rt_z S hr hlk hw dX1_isRingBox_17 rfl
  · have hf := (if_neg c1).symm.trans hf
    refine lv_iload_n hx hb dX1_isRingBox_4 rfl (lv_at hl 1 rfl) ?_
    refine lv_aload_n hx hb dX1_isRingBox_5 rfl (lv_at hl 0 rfl) ?_
    refine g_get (ci := 1) (C := RX1) (T := TX1) (N := 4) S hinX1 hK hw 0 0 k7 dX1_isRingBox_6 rfl rfl (by decide) rfl ?_
    refine lv_icmp_ge (tgt := 16) hx hb dX1_isRingBox_9 (by decide) (fun c2 => ?_) (fun c2 => ?_)
    · have hf := (if_pos c2).symm.trans hf
      refine lv_iconst (v := (0 : Int32)) hx hb dX1_isRingBox_16 (by decide) ?_
      obtain rfl := Option.some.inj hf
      exact rt_z S hr hlk hw dX1_isRingBox_17 rfl
    · have hf := (if_neg c2).symm.trans hf
      refine lv_iconst (v := (1 : Int32)) hx hb dX1_isRingBox_12 (by decide) ?_
      refine lv_goto (tgt := 17) hx hb dX1_isRingBox_13 (by decide) ?_
      obtain rfl := Option.some.inj hf
      exact rt_z S hr hlk hw dX1_isRingBox_17 rfl

def f_X1_ballAt (_ : Nat) (p1 : Int32) (t_bits : Int64) : Option (Int32) :=
  (some ((ushL t_bits p1).toInt32 &&& (1 : Int32)))

set_option maxHeartbeats 4000000 in
set_option maxRecDepth 100000 in
theorem c_X1_ballAt (l : Launch) (D : va_G) (cI cZ cJ cO : ClassId) (sz : Nat) (q_t : Nat) (N : Nat) (p1 : Int32) (t_size : Int32) (t_bits : Int64) (t_made : Int64) (t_carrierHas : Int32) (r : Int32) (hf : f_X1_ballAt N p1 t_bits = some r) : Met l yX1_ballAt wsX1_ballAt ({ frames := 0, cells := 0, slots := 0, locals := 0 }) (PreC D (TY cI cZ cJ cO) [.ref q_t, .int p1] [(q_t, .inr (1, [.int t_size, .long t_bits, .long t_made, .int t_carrierHas]))] sz) (QcI D [(q_t, .inr (1, [.int t_size, .long t_bits, .long t_made, .int t_carrierHas]))] (va_A [(q_t, .inr (1, [.int t_size, .long t_bits, .long t_made, .int t_carrierHas]))] sz) r) 0 0 (va_A [(q_t, .inr (1, [.int t_size, .long t_bits, .long t_made, .int t_carrierHas]))] sz) := by
  refine ctr (cc := cX1_ballAt) (maxL := 2) (ret := (some .int)) (by decide) rfl (Nat.le_of_ble_eq_true rfl) ?_
  intro p e s m below meth c S hr hlk hnm hK hN hsz hA hw ls hl
  generalize va_A [(q_t, .inr (1, [.int t_size, .long t_bits, .long t_made, .int t_carrierHas]))] sz = A at hA hw ⊢
  have S : CallFix p m c cX1_ballAt 2 s ([.ref q_t, .int p1] : List Value).toArray wsX1_ballAt RX1 := S
  have hx := S.1
  have hb := S.2.1
  have hts := S.2.2.2.2
  have hl : lv_has ls 2 [(0, .ref q_t), (1, .int p1)] := hl
  have hinX1 : ∀ w ∈ u_ws RX1 TX1 4, w ∈ wsX1_ballAt := by decide +kernel
  have k13 : Cond.fieldLink RX1 13 "BallBoxes$Ring" "bits" "J" ∈ wsX1_ballAt := by decide +kernel
  unfold f_X1_ballAt at hf
  refine lv_aload_n hx hb dX1_ballAt_0 rfl (lv_at hl 0 rfl) ?_
  refine g_get (ci := 1) (C := RX1) (T := TX1) (N := 4) S hinX1 hK hw 0 1 k13 dX1_ballAt_1 rfl rfl (by decide) rfl ?_
  refine lv_iload_n hx hb dX1_ballAt_4 rfl (lv_at hl 1 rfl) ?_
  refine lv_lushr (v := (ushL t_bits p1)) hx hb dX1_ballAt_5 rfl ?_
  refine lv_l2i (v := (ushL t_bits p1).toInt32) hx hb dX1_ballAt_6 rfl ?_
  refine lv_iconst (v := (1 : Int32)) hx hb dX1_ballAt_7 (by decide) ?_
  refine lv_iand hx hb dX1_ballAt_8 ?_
  obtain rfl := Option.some.inj hf
  exact rt_i S hr hlk hw dX1_ballAt_9

def f_X6_loadBehind (_ : Nat) (p0 : Int32) (p1 : Int32) (p2 : Int32)  : Option (Int32) :=
  (if p1 = (0 : Int32) then (if p0 ≤ (0 : Int32) then (some (0 : Int32)) else (some (p0 - (1 : Int32)))) else (if p2 ≤ p0 then (some p0) else (some (p0 + (1 : Int32)))))

set_option maxHeartbeats 4000000 in
set_option maxRecDepth 100000 in
theorem c_X6_loadBehind (l : Launch) (D : va_G) (cI cZ cJ cO : ClassId) (sz : Nat) (N : Nat) (p0 : Int32) (p1 : Int32) (p2 : Int32)  (r : Int32) (hf : f_X6_loadBehind N p0 p1 p2 = some r) : Met l yX6_loadBehind wsX6_loadBehind ({ frames := 0, cells := 0, slots := 0, locals := 0 }) (PreC D (TY cI cZ cJ cO) [.int p0, .int p1, .int p2] [] sz) (QcI D [] (va_A [] sz) r) 0 0 (va_A [] sz) := by
  refine ctr (cc := cX6_loadBehind) (maxL := 3) (ret := (some .int)) (by decide) rfl (Nat.le_of_ble_eq_true rfl) ?_
  intro p e s m below meth c S hr hlk hnm hK hN hsz hA hw ls hl
  generalize va_A [] sz = A at hA hw ⊢
  have S : CallFix p m c cX6_loadBehind 3 s ([.int p0, .int p1, .int p2] : List Value).toArray wsX6_loadBehind RX6 := S
  have hx := S.1
  have hb := S.2.1
  have hts := S.2.2.2.2
  have hl : lv_has ls 3 [(0, .int p0), (1, .int p1), (2, .int p2)] := hl
  unfold f_X6_loadBehind at hf
  refine lv_iload_n hx hb dX6_loadBehind_0 rfl (lv_at hl 1 rfl) ?_
  refine lv_if_eq (tgt := 17) hx hb dX6_loadBehind_1 (by decide) (fun c1 => ?_) (fun c1 => ?_)
  · have hf := (if_pos c1).symm.trans hf
    refine lv_iload_n hx hb dX6_loadBehind_17 rfl (lv_at hl 0 rfl) ?_
    refine lv_if_le (tgt := 27) hx hb dX6_loadBehind_18 (by decide) (fun c2 => ?_) (fun c2 => ?_)
    · have hf := (if_pos c2).symm.trans hf
      refine lv_iconst (v := (0 : Int32)) hx hb dX6_loadBehind_27 (by decide) ?_
      obtain rfl := Option.some.inj hf
      exact rt_i S hr hlk hw dX6_loadBehind_28
    · have hf := (if_neg c2).symm.trans hf
      refine lv_iload_n hx hb dX6_loadBehind_21 rfl (lv_at hl 0 rfl) ?_
      refine lv_iconst (v := (1 : Int32)) hx hb dX6_loadBehind_22 (by decide) ?_
      refine lv_isub hx hb dX6_loadBehind_23 ?_
      refine lv_goto (tgt := 28) hx hb dX6_loadBehind_24 (by decide) ?_
      obtain rfl := Option.some.inj hf
      exact rt_i S hr hlk hw dX6_loadBehind_28
  · have hf := (if_neg c1).symm.trans hf
    refine lv_iload_n hx hb dX6_loadBehind_4 rfl (lv_at hl 0 rfl) ?_
    refine lv_iload_n hx hb dX6_loadBehind_5 rfl (lv_at hl 2 rfl) ?_
    refine lv_icmp_ge (tgt := 15) hx hb dX6_loadBehind_6 (by decide) (fun c3 => ?_) (fun c3 => ?_)
    · have hf := (if_pos c3).symm.trans hf
      refine lv_iload_n hx hb dX6_loadBehind_15 rfl (lv_at hl 0 rfl) ?_
      obtain rfl := Option.some.inj hf
      exact rt_i S hr hlk hw dX6_loadBehind_16
    · have hf := (if_neg c3).symm.trans hf
      refine lv_iload_n hx hb dX6_loadBehind_9 rfl (lv_at hl 0 rfl) ?_
      refine lv_iconst (v := (1 : Int32)) hx hb dX6_loadBehind_10 (by decide) ?_
      refine lv_iadd hx hb dX6_loadBehind_11 ?_
      refine lv_goto (tgt := 16) hx hb dX6_loadBehind_12 (by decide) ?_
      obtain rfl := Option.some.inj hf
      exact rt_i S hr hlk hw dX6_loadBehind_16

def L_X1_goRound_8 (N : Nat) (x1 : Int32) (t_size : Int32) (t_bits : Int64) (K : Int32 → Int64 → Option (Int64 × Int32)) : Nat → Int32 → Int64 → Int32 → Option (Int64 × Int32)
  | 0, _, _, _ => none
  | n + 1, x3, x4, x6 => (if t_size ≤ x6 then (K x3 x4) else (bd1 (f_X1_ballAt N x6 t_bits) (fun r2 => (bd1 (f_X6_loadBehind N x3 r2 x1) (fun r4 => (L_X1_goRound_8 N x1 t_size t_bits K n r4 (x4 ||| (shlL ((r2 + x3) - r4).toInt64 x6)) (x6 + (1 : Int32))))))))

def f_X1_goRound (N : Nat) (p1 : Int32) (p2 : Int32) (t_size : Int32) (t_bits : Int64) (t_made : Int64) (t_carrierHas : Int32) : Option (Int64 × Int32) :=
  (L_X1_goRound_8 N p1 t_size t_bits (fun y6 y7 => (some (y7, y6))) N p2 (0 : Int64) (0 : Int32))

set_option maxHeartbeats 4000000 in
set_option maxRecDepth 100000 in
theorem c_X1_goRound (l : Launch) (D : va_G) (cI cZ cJ cO : ClassId) (sz : Nat) (q_t : Nat) (N : Nat) (p1 : Int32) (p2 : Int32) (t_size : Int32) (t_bits : Int64) (t_made : Int64) (t_carrierHas : Int32) (o_t_made : Int64) (o_t_carrierHas : Int32) (hf : f_X1_goRound N p1 p2 t_size t_bits t_made t_carrierHas = some (o_t_made, o_t_carrierHas)) : Met l yX1_goRound wsX1_goRound ({ frames := 1, cells := 0, slots := 0, locals := 22 }) (PreC D (TY cI cZ cJ cO) [.ref q_t, .int p1, .int p2] [(q_t, .inr (1, [.int t_size, .long t_bits, .long t_made, .int t_carrierHas]))] sz) (QcV D [(q_t, .inr (1, [.int t_size, .long t_bits, .long o_t_made, .int o_t_carrierHas]))] (va_A [(q_t, .inr (1, [.int t_size, .long t_bits, .long t_made, .int t_carrierHas]))] sz)) 0 0 (va_A [(q_t, .inr (1, [.int t_size, .long t_bits, .long t_made, .int t_carrierHas]))] sz) := by
  refine ctr (cc := cX1_goRound) (maxL := 9) (ret := none) (by decide) rfl (Nat.le_of_ble_eq_true rfl) ?_
  intro p e s m below meth c S hr hlk hnm hK hN hsz hA hw ls hl
  generalize va_A [(q_t, .inr (1, [.int t_size, .long t_bits, .long t_made, .int t_carrierHas]))] sz = A at hA hw ⊢
  have S : CallFix p m c cX1_goRound 9 s ([.ref q_t, .int p1, .int p2] : List Value).toArray wsX1_goRound RX1 := S
  have hx := S.1
  have hb := S.2.1
  have hts := S.2.2.2.2
  have hl : lv_has ls 9 [(0, .ref q_t), (1, .int p1), (2, .int p2)] := hl
  have hinX1 : ∀ w ∈ u_ws RX1 TX1 4, w ∈ wsX1_goRound := by decide +kernel
  have k7 : Cond.fieldLink RX1 7 "BallBoxes$Ring" "size" "I" ∈ wsX1_goRound := by decide +kernel
  have k21 : Cond.fieldLink RX1 21 "BallBoxes$Ring" "carrierHas" "I" ∈ wsX1_goRound := by decide +kernel
  have k24 : Cond.fieldLink RX1 24 "BallBoxes$Ring" "made" "J" ∈ wsX1_goRound := by decide +kernel
  have Lp8 : ∀ (x1 : Int32) (w_t_made : Int64) (w_t_carrierHas : Int32) (K : Int32 → Int64 → Option (Int64 × Int32)), (∀ (z3 : Int32) (z4 : Int64) (H : Heap) (locs : List Loc) (ls : Array Slot), Wd D A s.heap [(q_t, .inr (1, [.int t_size, .long t_bits, .long w_t_made, .int w_t_carrierHas]))] H locs → lv_has ls 9 [(0, .ref q_t), (3, .int z3), (4, .long z4)] → K z3 z4 = some (o_t_made, o_t_carrierHas) → W p l e ({ frames := 1, cells := 0, slots := 0, locals := 22 } : Room) s m ([.ref q_t, .int p1, .int p2] : List Value).toArray below meth c H locs 0 0 (MQ below (QcV D [(q_t, .inr (1, [.int t_size, .long t_bits, .long o_t_made, .int o_t_carrierHas]))] A) ([.ref q_t, .int p1, .int p2] : List Value).toArray s 0 0 A) (F0 m 59 ls [])) → ∀ (n : Nat) (x3 : Int32) (x4 : Int64) (x6 : Int32) (H : Heap) (locs : List Loc) (ls : Array Slot), Wd D A s.heap [(q_t, .inr (1, [.int t_size, .long t_bits, .long w_t_made, .int w_t_carrierHas]))] H locs → lv_has ls 9 [(0, .ref q_t), (1, .int x1), (3, .int x3), (4, .long x4), (6, .int x6)] → L_X1_goRound_8 N x1 t_size t_bits K n x3 x4 x6 = some (o_t_made, o_t_carrierHas) → W p l e ({ frames := 1, cells := 0, slots := 0, locals := 22 } : Room) s m ([.ref q_t, .int p1, .int p2] : List Value).toArray below meth c H locs 0 0 (MQ below (QcV D [(q_t, .inr (1, [.int t_size, .long t_bits, .long o_t_made, .int o_t_carrierHas]))] A) ([.ref q_t, .int p1, .int p2] : List Value).toArray s 0 0 A) (F0 m 8 ls []) := by
    intro x1 w_t_made w_t_carrierHas K hKx n
    induction n with
    | zero =>
      intro x3 x4 x6 H locs ls hw hl hf
      rw [L_X1_goRound_8] at hf
      cases hf
    | succ n ih =>
      intro x3 x4 x6 H locs ls hw hl hf
      rw [L_X1_goRound_8] at hf
      refine lv_iload hx hb dX1_goRound_8 (lv_at hl 4 rfl) ?_
      refine lv_aload_n hx hb dX1_goRound_10 rfl (lv_at hl 0 rfl) ?_
      refine g_get (ci := 1) (C := RX1) (T := TX1) (N := 4) S hinX1 hK hw 0 0 k7 dX1_goRound_11 rfl rfl (by decide) rfl ?_
      refine lv_icmp_ge (tgt := 59) hx hb dX1_goRound_14 (by decide) (fun c1 => ?_) (fun c1 => ?_)
      · have hf := (if_pos c1).symm.trans hf
        exact hKx x3 x4 _ _ _ hw (lv_sub hl [0, 2, 3] rfl) hf
      · have hf := (if_neg c1).symm.trans hf
        refine lv_aload_n hx hb dX1_goRound_17 rfl (lv_at hl 0 rfl) ?_
        refine lv_iload hx hb dX1_goRound_18 (lv_at hl 4 rfl) ?_
        obtain ⟨r2, h3, hf⟩ := bd1_some hf
        refine cl_i (wr := []) (ws' := [(q_t, .inr (1, [.int t_size, .long t_bits, .long w_t_made, .int w_t_carrierHas]))]) hA hw [0] [] [0] rfl rfl rfl (by decide) rfl rfl (va_runV (As := [.int x6]) (rest := []) S (c_X1_ballAt l D cI cZ cJ cO _ q_t N x6 t_size t_bits w_t_made w_t_carrierHas r2 h3) (cwV 1 hts gX1_goRound_X1_ballAt rfl rfl rfl (by decide +kernel) ⟨Nat.le_of_ble_eq_true rfl, Nat.le_of_ble_eq_true rfl⟩) (pre_V hK hN hw [0] rfl rfl (C := RX1) (T := TX1) (N := 4) (ci := 1) (q0 := 0) rfl rfl) rfl rfl hl.1 rfl (lv_room (Nat.le_of_ble_eq_true rfl)) dX1_goRound_20 ⟨Nat.zero_le _, Nat.zero_le _⟩) (fun H locs hw => ?_)
        refine lv_istore (lv' := [(7, .int r2), (0, .ref q_t), (1, .int x1), (3, .int x3), (4, .long x4), (6, .int x6)]) hx hb dX1_goRound_23 hl (by decide) rfl (fun ls hl => ?_)
        refine lv_iload_n hx hb dX1_goRound_25 rfl (lv_at hl 3 rfl) ?_
        refine lv_iload hx hb dX1_goRound_26 (lv_at hl 0 rfl) ?_
        refine lv_iload_n hx hb dX1_goRound_28 rfl (lv_at hl 2 rfl) ?_
        obtain ⟨r4, h5, hf⟩ := bd1_some hf
        refine cl_i (wr := [(q_t, .inr (1, [.int t_size, .long t_bits, .long w_t_made, .int w_t_carrierHas]))]) (ws' := [(q_t, .inr (1, [.int t_size, .long t_bits, .long w_t_made, .int w_t_carrierHas]))]) hA hw [] [0] [0] rfl rfl rfl (by decide) rfl rfl (va_runSN (As := [.int x3, .int r2, .int x1]) (rest := []) S (c_X6_loadBehind l D cI cZ cJ cO _ N x3 r2 x1 r4 h5) ⟨va_cnB 3 hts gX1_goRound_X6_loadBehind_n31 rfl rfl rfl (hN.1 _ nw_X1_31) (hts (.initialized RX6) (by decide +kernel)) (by decide +kernel) ⟨Nat.le_of_ble_eq_true rfl, Nat.le_of_ble_eq_true rfl⟩, hts (.static yX6_loadBehind) (by decide +kernel), trivial⟩ (pre_S hK hN hw [] rfl rfl) rfl rfl hl.1 rfl (lv_room (Nat.le_of_ble_eq_true rfl)) dX1_goRound_29 ⟨Nat.zero_le _, Nat.zero_le _⟩) (fun H locs hw => ?_)
        refine lv_istore (lv' := [(8, .int r4), (7, .int r2), (0, .ref q_t), (1, .int x1), (3, .int x3), (4, .long x4), (6, .int x6)]) hx hb dX1_goRound_32 hl (by decide) rfl (fun ls hl => ?_)
        refine lv_lload hx hb dX1_goRound_34 (lv_at hl 5 rfl) ?_
        refine lv_iload hx hb dX1_goRound_36 (lv_at hl 1 rfl) ?_
        refine lv_iload_n hx hb dX1_goRound_38 rfl (lv_at hl 4 rfl) ?_
        refine lv_iadd hx hb dX1_goRound_39 ?_
        refine lv_iload hx hb dX1_goRound_40 (lv_at hl 0 rfl) ?_
        refine lv_isub hx hb dX1_goRound_42 ?_
        refine lv_i2l (v := ((r2 + x3) - r4).toInt64) hx hb dX1_goRound_43 rfl ?_
        refine lv_iload hx hb dX1_goRound_44 (lv_at hl 6 rfl) ?_
        refine lv_lshl (v := (shlL ((r2 + x3) - r4).toInt64 x6)) hx hb dX1_goRound_46 rfl ?_
        refine lv_lor hx hb dX1_goRound_47 ?_
        refine lv_lstore (lv' := [(4, .long (x4 ||| (shlL ((r2 + x3) - r4).toInt64 x6))), (8, .int r4), (7, .int r2), (0, .ref q_t), (1, .int x1), (3, .int x3), (6, .int x6)]) hx hb dX1_goRound_48 hl (by decide) rfl (fun ls hl => ?_)
        refine lv_iload hx hb dX1_goRound_50 (lv_at hl 1 rfl) ?_
        refine lv_istore_n (lv' := [(3, .int r4), (4, .long (x4 ||| (shlL ((r2 + x3) - r4).toInt64 x6))), (8, .int r4), (7, .int r2), (0, .ref q_t), (1, .int x1), (6, .int x6)]) hx hb dX1_goRound_52 rfl hl (by decide) rfl (fun ls hl => ?_)
        refine lv_iinc (v := (x6 + (1 : Int32))) (lv' := [(6, .int (x6 + (1 : Int32))), (3, .int r4), (4, .long (x4 ||| (shlL ((r2 + x3) - r4).toInt64 x6))), (8, .int r4), (7, .int r2), (0, .ref q_t), (1, .int x1)]) hx hb dX1_goRound_53 hl (k := 6) rfl rfl (by decide) rfl (fun ls hl => ?_)
        refine lv_goto (tgt := 8) hx hb dX1_goRound_56 (by decide) ?_
        exact ih r4 (x4 ||| (shlL ((r2 + x3) - r4).toInt64 x6)) (x6 + (1 : Int32)) _ _ _ hw (lv_sub hl [5, 6, 1, 2, 0] rfl) hf
  unfold f_X1_goRound at hf
  refine lv_iload_n hx hb dX1_goRound_0 rfl (lv_at hl 2 rfl) ?_
  refine lv_istore_n (lv' := [(3, .int p2), (0, .ref q_t), (1, .int p1), (2, .int p2)]) hx hb dX1_goRound_1 rfl hl (by decide) rfl (fun ls hl => ?_)
  refine lv_lconst (v := (0 : Int64)) hx hb dX1_goRound_2 (by decide) ?_
  refine lv_lstore (lv' := [(4, .long (0 : Int64)), (3, .int p2), (0, .ref q_t), (1, .int p1), (2, .int p2)]) hx hb dX1_goRound_3 hl (by decide) rfl (fun ls hl => ?_)
  refine lv_iconst (v := (0 : Int32)) hx hb dX1_goRound_5 (by decide) ?_
  refine lv_istore (lv' := [(6, .int (0 : Int32)), (4, .long (0 : Int64)), (3, .int p2), (0, .ref q_t), (1, .int p1), (2, .int p2)]) hx hb dX1_goRound_6 hl (by decide) rfl (fun ls hl => ?_)
  refine Lp8 p1 t_made t_carrierHas _ (fun y6 y7 H locs ls hw hl hf => ?_) N p2 (0 : Int64) (0 : Int32) _ _ _ hw (lv_sub hl [3, 4, 2, 1, 0] rfl) hf
  refine lv_aload_n hx hb dX1_goRound_59 rfl (lv_at hl 0 rfl) ?_
  refine lv_lload hx hb dX1_goRound_60 (lv_at hl 2 rfl) ?_
  refine g_put (ci := 1) (C := RX1) (T := TX1) (N := 4) (ws' := [(q_t, .inr (1, [.int t_size, .long t_bits, .long y7, .int t_carrierHas]))]) S hinX1 tyX1 tyX1_ok nmX1 hK hw 0 2 k24 dX1_goRound_62 rfl rfl (by decide) rfl rfl rfl (Nat.le_of_ble_eq_true rfl) rfl (fun H locs hw => ?_)
  refine lv_aload_n hx hb dX1_goRound_65 rfl (lv_at hl 0 rfl) ?_
  refine lv_iload_n hx hb dX1_goRound_66 rfl (lv_at hl 1 rfl) ?_
  refine g_put (ci := 1) (C := RX1) (T := TX1) (N := 4) (ws' := [(q_t, .inr (1, [.int t_size, .long t_bits, .long y7, .int y6]))]) S hinX1 tyX1 tyX1_ok nmX1 hK hw 0 3 k21 dX1_goRound_67 rfl rfl (by decide) rfl rfl rfl (Nat.le_of_ble_eq_true rfl) rfl (fun H locs hw => ?_)
  obtain ⟨rfl, rfl⟩ := pr2 (Option.some.inj hf)
  exact rt_v S hr hlk hw dX1_goRound_70

def f_X1_turnBy (N : Nat) (p1 : Int32) (t_size : Int32) (t_bits : Int64) (t_made : Int64) (t_carrierHas : Int32) : Option (Int32 × Int64 × Int64 × Int32) :=
  (bd2 (f_X1_goRound N p1 (0 : Int32) t_size t_bits t_made t_carrierHas) (fun u1 u2 => (if u2 = (0 : Int32) then (some (u2, u1, u1, u2)) else (bd2 (f_X1_goRound N p1 u2 t_size t_bits u1 u2) (fun u5 u6 => (some (u2, u5, u5, u6)))))))

set_option maxHeartbeats 4000000 in
set_option maxRecDepth 100000 in
theorem c_X1_turnBy (l : Launch) (D : va_G) (cI cZ cJ cO : ClassId) (sz : Nat) (q_t : Nat) (N : Nat) (p1 : Int32) (t_size : Int32) (t_bits : Int64) (t_made : Int64) (t_carrierHas : Int32) (r : Int32) (o_t_bits : Int64) (o_t_made : Int64) (o_t_carrierHas : Int32) (hf : f_X1_turnBy N p1 t_size t_bits t_made t_carrierHas = some (r, o_t_bits, o_t_made, o_t_carrierHas)) : Met l yX1_turnBy wsX1_turnBy ({ frames := 2, cells := 0, slots := 0, locals := 50 }) (PreC D (TY cI cZ cJ cO) [.ref q_t, .int p1] [(q_t, .inr (1, [.int t_size, .long t_bits, .long t_made, .int t_carrierHas]))] sz) (QcI D [(q_t, .inr (1, [.int t_size, .long o_t_bits, .long o_t_made, .int o_t_carrierHas]))] (va_A [(q_t, .inr (1, [.int t_size, .long t_bits, .long t_made, .int t_carrierHas]))] sz) r) 0 0 (va_A [(q_t, .inr (1, [.int t_size, .long t_bits, .long t_made, .int t_carrierHas]))] sz) := by
  refine ctr (cc := cX1_turnBy) (maxL := 3) (ret := (some .int)) (by decide) rfl (Nat.le_of_ble_eq_true rfl) ?_
  intro p e s m below meth c S hr hlk hnm hK hN hsz hA hw ls hl
  generalize va_A [(q_t, .inr (1, [.int t_size, .long t_bits, .long t_made, .int t_carrierHas]))] sz = A at hA hw ⊢
  have S : CallFix p m c cX1_turnBy 3 s ([.ref q_t, .int p1] : List Value).toArray wsX1_turnBy RX1 := S
  have hx := S.1
  have hb := S.2.1
  have hts := S.2.2.2.2
  have hl : lv_has ls 3 [(0, .ref q_t), (1, .int p1)] := hl
  have hinX1 : ∀ w ∈ u_ws RX1 TX1 4, w ∈ wsX1_turnBy := by decide +kernel
  have k13 : Cond.fieldLink RX1 13 "BallBoxes$Ring" "bits" "J" ∈ wsX1_turnBy := by decide +kernel
  have k21 : Cond.fieldLink RX1 21 "BallBoxes$Ring" "carrierHas" "I" ∈ wsX1_turnBy := by decide +kernel
  have k24 : Cond.fieldLink RX1 24 "BallBoxes$Ring" "made" "J" ∈ wsX1_turnBy := by decide +kernel
  unfold f_X1_turnBy at hf
  refine lv_aload_n hx hb dX1_turnBy_0 rfl (lv_at hl 0 rfl) ?_
  refine lv_iload_n hx hb dX1_turnBy_1 rfl (lv_at hl 1 rfl) ?_
  refine lv_iconst (v := (0 : Int32)) hx hb dX1_turnBy_2 (by decide) ?_
  obtain ⟨u1, u2, h3, hf⟩ := bd2_some hf
  refine cl_v (wr := []) (ws' := [(q_t, .inr (1, [.int t_size, .long t_bits, .long u1, .int u2]))]) hA hw [0] [] [0] rfl rfl rfl (by decide) rfl rfl (va_runV (As := [.int p1, .int (0 : Int32)]) (rest := []) S (c_X1_goRound l D cI cZ cJ cO _ q_t N p1 (0 : Int32) t_size t_bits t_made t_carrierHas u1 u2 h3) (cwV 2 hts gX1_turnBy_X1_goRound rfl rfl rfl (by decide +kernel) ⟨Nat.le_of_ble_eq_true rfl, Nat.le_of_ble_eq_true rfl⟩) (pre_V hK hN hw [0] rfl rfl (C := RX1) (T := TX1) (N := 4) (ci := 1) (q0 := 0) rfl rfl) rfl rfl hl.1 rfl (lv_room (Nat.le_of_ble_eq_true rfl)) dX1_turnBy_3 ⟨Nat.zero_le _, Nat.zero_le _⟩) (fun H locs hw => ?_)
  refine lv_aload_n hx hb dX1_turnBy_6 rfl (lv_at hl 0 rfl) ?_
  refine g_get (ci := 1) (C := RX1) (T := TX1) (N := 4) S hinX1 hK hw 0 3 k21 dX1_turnBy_7 rfl rfl (by decide) rfl ?_
  refine lv_istore_n (lv' := [(2, .int u2), (0, .ref q_t), (1, .int p1)]) hx hb dX1_turnBy_10 rfl hl (by decide) rfl (fun ls hl => ?_)
  refine lv_iload_n hx hb dX1_turnBy_11 rfl (lv_at hl 0 rfl) ?_
  refine lv_if_eq (tgt := 21) hx hb dX1_turnBy_12 (by decide) (fun c4 => ?_) (fun c4 => ?_)
  · have hf := (if_pos c4).symm.trans hf
    refine lv_aload_n hx hb dX1_turnBy_21 rfl (lv_at hl 1 rfl) ?_
    refine lv_aload_n hx hb dX1_turnBy_22 rfl (lv_at hl 1 rfl) ?_
    refine g_get (ci := 1) (C := RX1) (T := TX1) (N := 4) S hinX1 hK hw 0 2 k24 dX1_turnBy_23 rfl rfl (by decide) rfl ?_
    refine g_put (ci := 1) (C := RX1) (T := TX1) (N := 4) (ws' := [(q_t, .inr (1, [.int t_size, .long u1, .long u1, .int u2]))]) S hinX1 tyX1 tyX1_ok nmX1 hK hw 0 1 k13 dX1_turnBy_26 rfl rfl (by decide) rfl rfl rfl (Nat.le_of_ble_eq_true rfl) rfl (fun H locs hw => ?_)
    refine lv_iload_n hx hb dX1_turnBy_29 rfl (lv_at hl 0 rfl) ?_
    obtain ⟨rfl, rfl, rfl, rfl⟩ := pr4 (Option.some.inj hf)
    exact rt_i S hr hlk hw dX1_turnBy_30
  · have hf := (if_neg c4).symm.trans hf
    refine lv_aload_n hx hb dX1_turnBy_15 rfl (lv_at hl 1 rfl) ?_
    refine lv_iload_n hx hb dX1_turnBy_16 rfl (lv_at hl 2 rfl) ?_
    refine lv_iload_n hx hb dX1_turnBy_17 rfl (lv_at hl 0 rfl) ?_
    obtain ⟨u5, u6, h7, hf⟩ := bd2_some hf
    refine cl_v (wr := []) (ws' := [(q_t, .inr (1, [.int t_size, .long t_bits, .long u5, .int u6]))]) hA hw [0] [] [0] rfl rfl rfl (by decide) rfl rfl (va_runV (As := [.int p1, .int u2]) (rest := []) S (c_X1_goRound l D cI cZ cJ cO _ q_t N p1 u2 t_size t_bits u1 u2 u5 u6 h7) (cwV 2 hts gX1_turnBy_X1_goRound rfl rfl rfl (by decide +kernel) ⟨Nat.le_of_ble_eq_true rfl, Nat.le_of_ble_eq_true rfl⟩) (pre_V hK hN hw [0] rfl rfl (C := RX1) (T := TX1) (N := 4) (ci := 1) (q0 := 0) rfl rfl) rfl rfl hl.1 rfl (lv_room (Nat.le_of_ble_eq_true rfl)) dX1_turnBy_18 ⟨Nat.zero_le _, Nat.zero_le _⟩) (fun H locs hw => ?_)
    refine lv_aload_n hx hb dX1_turnBy_21 rfl (lv_at hl 1 rfl) ?_
    refine lv_aload_n hx hb dX1_turnBy_22 rfl (lv_at hl 1 rfl) ?_
    refine g_get (ci := 1) (C := RX1) (T := TX1) (N := 4) S hinX1 hK hw 0 2 k24 dX1_turnBy_23 rfl rfl (by decide) rfl ?_
    refine g_put (ci := 1) (C := RX1) (T := TX1) (N := 4) (ws' := [(q_t, .inr (1, [.int t_size, .long u5, .long u5, .int u6]))]) S hinX1 tyX1 tyX1_ok nmX1 hK hw 0 1 k13 dX1_turnBy_26 rfl rfl (by decide) rfl rfl rfl (Nat.le_of_ble_eq_true rfl) rfl (fun H locs hw => ?_)
    refine lv_iload_n hx hb dX1_turnBy_29 rfl (lv_at hl 0 rfl) ?_
    obtain ⟨rfl, rfl, rfl, rfl⟩ := pr4 (Option.some.inj hf)
    exact rt_i S hr hlk hw dX1_turnBy_30

def L_X2_periodOf_17 (N : Nat) (x2 : Int32) (w_t_ring_size : Int32) (a1_bits : Int64) (K : Int64 → Int64 → Int32 → Option (Int32 × Int32 × Int64 × Int64 × Int32)) : Nat → Int32 → Int64 → Int64 → Int32 → Option (Int32 × Int32 × Int64 × Int64 × Int32)
  | 0, _, _, _, _ => none
  | n + 1, x3, w_t_ring_bits, w_t_ring_made, w_t_ring_carrierHas => (if (20000 : Int32) < x3 then (K w_t_ring_bits w_t_ring_made w_t_ring_carrierHas) else (bd4 (f_X1_turnBy N x2 w_t_ring_size w_t_ring_bits w_t_ring_made w_t_ring_carrierHas) (fun r5 u6 u7 u8 => (if (lg_cmp u6 a1_bits) = (0 : Int32) then (some (x3, w_t_ring_size, u6, u7, u8)) else (L_X2_periodOf_17 N x2 w_t_ring_size a1_bits K n (x3 + (1 : Int32)) u6 u7 u8)))))

def f_X2_periodOf (N : Nat) (p2 : Int32) (t_ring_size : Int32) (t_ring_bits : Int64) (t_ring_made : Int64) (t_ring_carrierHas : Int32) (a1_size : Int32) (a1_bits : Int64) : Option (Int32 × Int32 × Int64 × Int64 × Int32) :=
  (bd2 (f_X1_become N a1_size a1_bits t_ring_size t_ring_bits) (fun u1 u2 => (L_X2_periodOf_17 N p2 u1 a1_bits (fun u11 u12 u13 => (some ((-5 : Int32), u1, u11, u12, u13))) N (1 : Int32) u2 t_ring_made t_ring_carrierHas)))

set_option maxHeartbeats 4000000 in
set_option maxRecDepth 100000 in
theorem c_X2_periodOf (l : Launch) (D : va_G) (cI cZ cJ cO : ClassId) (sz : Nat) (q_t q_t_ring q_t_seen q_a1 : Nat) (N : Nat) (p2 : Int32) (t_ring_size : Int32) (t_ring_bits : Int64) (t_ring_made : Int64) (t_ring_carrierHas : Int32) (a1_size : Int32) (a1_bits : Int64) (a1_made : Int64) (a1_carrierHas : Int32) (r : Int32) (o_t_ring_size : Int32) (o_t_ring_bits : Int64) (o_t_ring_made : Int64) (o_t_ring_carrierHas : Int32) (hf : f_X2_periodOf N p2 t_ring_size t_ring_bits t_ring_made t_ring_carrierHas a1_size a1_bits = some (r, o_t_ring_size, o_t_ring_bits, o_t_ring_made, o_t_ring_carrierHas)) : Met l yX2_periodOf wsX2_periodOf ({ frames := 3, cells := 0, slots := 0, locals := 72 }) (PreC D (TY cI cZ cJ cO) [.ref q_t, .ref q_a1, .int p2] [(q_t, .inr (2, [.ref q_t_ring, .ref q_t_seen])), (q_t_ring, .inr (1, [.int t_ring_size, .long t_ring_bits, .long t_ring_made, .int t_ring_carrierHas])), (q_a1, .inr (1, [.int a1_size, .long a1_bits, .long a1_made, .int a1_carrierHas]))] sz) (QcI D [(q_t, .inr (2, [.ref q_t_ring, .ref q_t_seen])), (q_t_ring, .inr (1, [.int o_t_ring_size, .long o_t_ring_bits, .long o_t_ring_made, .int o_t_ring_carrierHas])), (q_a1, .inr (1, [.int a1_size, .long a1_bits, .long a1_made, .int a1_carrierHas]))] (va_A [(q_t, .inr (2, [.ref q_t_ring, .ref q_t_seen])), (q_t_ring, .inr (1, [.int t_ring_size, .long t_ring_bits, .long t_ring_made, .int t_ring_carrierHas])), (q_a1, .inr (1, [.int a1_size, .long a1_bits, .long a1_made, .int a1_carrierHas]))] sz) r) 0 0 (va_A [(q_t, .inr (2, [.ref q_t_ring, .ref q_t_seen])), (q_t_ring, .inr (1, [.int t_ring_size, .long t_ring_bits, .long t_ring_made, .int t_ring_carrierHas])), (q_a1, .inr (1, [.int a1_size, .long a1_bits, .long a1_made, .int a1_carrierHas]))] sz) := by
  refine ctr (cc := cX2_periodOf) (maxL := 4) (ret := (some .int)) (by decide) rfl (Nat.le_of_ble_eq_true rfl) ?_
  intro p e s m below meth c S hr hlk hnm hK hN hsz hA hw ls hl
  generalize va_A [(q_t, .inr (2, [.ref q_t_ring, .ref q_t_seen])), (q_t_ring, .inr (1, [.int t_ring_size, .long t_ring_bits, .long t_ring_made, .int t_ring_carrierHas])), (q_a1, .inr (1, [.int a1_size, .long a1_bits, .long a1_made, .int a1_carrierHas]))] sz = A at hA hw ⊢
  have S : CallFix p m c cX2_periodOf 4 s ([.ref q_t, .ref q_a1, .int p2] : List Value).toArray wsX2_periodOf RX2 := S
  have hx := S.1
  have hb := S.2.1
  have hts := S.2.2.2.2
  have hl : lv_has ls 4 [(0, .ref q_t), (1, .ref q_a1), (2, .int p2)] := hl
  have hinX1 : ∀ w ∈ u_ws RX1 TX1 4, w ∈ wsX2_periodOf := by decide +kernel
  have hinX2 : ∀ w ∈ u_ws RX2 TX2 2, w ∈ wsX2_periodOf := by decide +kernel
  have k12 : Cond.fieldLink RX2 12 "BallBoxes$RingTrial" "ring" "LBallBoxes$Ring;" ∈ wsX2_periodOf := by decide +kernel
  have Lp17 : ∀ (x2 : Int32) (w_t_ring_size : Int32) (K : Int64 → Int64 → Int32 → Option (Int32 × Int32 × Int64 × Int64 × Int32)), (∀ (z_t_ring_bits : Int64) (z_t_ring_made : Int64) (z_t_ring_carrierHas : Int32) (H : Heap) (locs : List Loc) (ls : Array Slot), Wd D A s.heap [(q_t, .inr (2, [.ref q_t_ring, .ref q_t_seen])), (q_t_ring, .inr (1, [.int w_t_ring_size, .long z_t_ring_bits, .long z_t_ring_made, .int z_t_ring_carrierHas])), (q_a1, .inr (1, [.int a1_size, .long a1_bits, .long a1_made, .int a1_carrierHas]))] H locs → lv_has ls 4 [] → K z_t_ring_bits z_t_ring_made z_t_ring_carrierHas = some (r, o_t_ring_size, o_t_ring_bits, o_t_ring_made, o_t_ring_carrierHas) → W p l e ({ frames := 3, cells := 0, slots := 0, locals := 72 } : Room) s m ([.ref q_t, .ref q_a1, .int p2] : List Value).toArray below meth c H locs 0 0 (MQ below (QcI D [(q_t, .inr (2, [.ref q_t_ring, .ref q_t_seen])), (q_t_ring, .inr (1, [.int o_t_ring_size, .long o_t_ring_bits, .long o_t_ring_made, .int o_t_ring_carrierHas])), (q_a1, .inr (1, [.int a1_size, .long a1_bits, .long a1_made, .int a1_carrierHas]))] A r) ([.ref q_t, .ref q_a1, .int p2] : List Value).toArray s 0 0 A) (F0 m 56 ls [])) → ∀ (n : Nat) (x3 : Int32) (w_t_ring_bits : Int64) (w_t_ring_made : Int64) (w_t_ring_carrierHas : Int32) (H : Heap) (locs : List Loc) (ls : Array Slot), Wd D A s.heap [(q_t, .inr (2, [.ref q_t_ring, .ref q_t_seen])), (q_t_ring, .inr (1, [.int w_t_ring_size, .long w_t_ring_bits, .long w_t_ring_made, .int w_t_ring_carrierHas])), (q_a1, .inr (1, [.int a1_size, .long a1_bits, .long a1_made, .int a1_carrierHas]))] H locs → lv_has ls 4 [(0, .ref q_t), (1, .ref q_a1), (2, .int x2), (3, .int x3)] → L_X2_periodOf_17 N x2 w_t_ring_size a1_bits K n x3 w_t_ring_bits w_t_ring_made w_t_ring_carrierHas = some (r, o_t_ring_size, o_t_ring_bits, o_t_ring_made, o_t_ring_carrierHas) → W p l e ({ frames := 3, cells := 0, slots := 0, locals := 72 } : Room) s m ([.ref q_t, .ref q_a1, .int p2] : List Value).toArray below meth c H locs 0 0 (MQ below (QcI D [(q_t, .inr (2, [.ref q_t_ring, .ref q_t_seen])), (q_t_ring, .inr (1, [.int o_t_ring_size, .long o_t_ring_bits, .long o_t_ring_made, .int o_t_ring_carrierHas])), (q_a1, .inr (1, [.int a1_size, .long a1_bits, .long a1_made, .int a1_carrierHas]))] A r) ([.ref q_t, .ref q_a1, .int p2] : List Value).toArray s 0 0 A) (F0 m 17 ls []) := by
    intro x2 w_t_ring_size K hKx n
    induction n with
    | zero =>
      intro x3 w_t_ring_bits w_t_ring_made w_t_ring_carrierHas H locs ls hw hl hf
      rw [L_X2_periodOf_17] at hf
      cases hf
    | succ n ih =>
      intro x3 w_t_ring_bits w_t_ring_made w_t_ring_carrierHas H locs ls hw hl hf
      rw [L_X2_periodOf_17] at hf
      refine lv_iload_n hx hb dX2_periodOf_17 rfl (lv_at hl 3 rfl) ?_
      refine lv_sipush (v := (20000 : Int32)) hx hb dX2_periodOf_18 (by decide) ?_
      refine lv_icmp_gt (tgt := 56) hx hb dX2_periodOf_21 (by decide) (fun c4 => ?_) (fun c4 => ?_)
      · have hf := (if_pos c4).symm.trans hf
        exact hKx w_t_ring_bits w_t_ring_made w_t_ring_carrierHas _ _ _ hw (lv_sub hl [] rfl) hf
      · have hf := (if_neg c4).symm.trans hf
        refine lv_aload_n hx hb dX2_periodOf_24 rfl (lv_at hl 0 rfl) ?_
        refine g_get (ci := 2) (C := RX2) (T := TX2) (N := 2) S hinX2 hK hw 0 0 k12 dX2_periodOf_25 rfl rfl (by decide) rfl ?_
        refine lv_iload_n hx hb dX2_periodOf_28 rfl (lv_at hl 2 rfl) ?_
        obtain ⟨r5, u6, u7, u8, h9, hf⟩ := bd4_some hf
        refine cl_i (wr := [(q_t, .inr (2, [.ref q_t_ring, .ref q_t_seen])), (q_a1, .inr (1, [.int a1_size, .long a1_bits, .long a1_made, .int a1_carrierHas]))]) (ws' := [(q_t, .inr (2, [.ref q_t_ring, .ref q_t_seen])), (q_t_ring, .inr (1, [.int w_t_ring_size, .long u6, .long u7, .int u8])), (q_a1, .inr (1, [.int a1_size, .long a1_bits, .long a1_made, .int a1_carrierHas]))]) hA hw [1] [0, 2] [0, 2, 1] rfl rfl rfl (by decide) rfl rfl (va_runV (As := [.int x2]) (rest := []) S (c_X1_turnBy l D cI cZ cJ cO _ q_t_ring N x2 w_t_ring_size w_t_ring_bits w_t_ring_made w_t_ring_carrierHas r5 u6 u7 u8 h9) (cwV 1 hts gX2_periodOf_X1_turnBy rfl rfl rfl (by decide +kernel) ⟨Nat.le_of_ble_eq_true rfl, Nat.le_of_ble_eq_true rfl⟩) (pre_V hK hN hw [1] rfl rfl (C := RX1) (T := TX1) (N := 4) (ci := 1) (q0 := 0) rfl rfl) rfl rfl hl.1 rfl (lv_room (Nat.le_of_ble_eq_true rfl)) dX2_periodOf_29 ⟨Nat.zero_le _, Nat.zero_le _⟩) (fun H locs hw => ?_)
        refine lv_pop hx hb dX2_periodOf_32 rfl ?_
        refine lv_aload_n hx hb dX2_periodOf_33 rfl (lv_at hl 0 rfl) ?_
        refine g_get (ci := 2) (C := RX2) (T := TX2) (N := 2) S hinX2 hK hw 0 0 k12 dX2_periodOf_34 rfl rfl (by decide) rfl ?_
        refine g_getN (ci := 1) (C := RX1) (T := TX1) (N := 4) S hinX1 hK hN hw 1 1 nw_X2_26 dX2_periodOf_37 rfl rfl (by decide) rfl ?_
        refine lv_aload_n hx hb dX2_periodOf_40 rfl (lv_at hl 1 rfl) ?_
        refine g_getN (ci := 1) (C := RX1) (T := TX1) (N := 4) S hinX1 hK hN hw 2 1 nw_X2_26 dX2_periodOf_41 rfl rfl (by decide) rfl ?_
        refine W.lcmp hx hb dX2_periodOf_44 ?_
        refine lv_if_ne (tgt := 50) hx hb dX2_periodOf_45 (by decide) (fun c10 => ?_) (fun c10 => ?_)
        · have hf := (if_neg c10).symm.trans hf
          refine lv_iinc (v := (x3 + (1 : Int32))) (lv' := [(3, .int (x3 + (1 : Int32))), (0, .ref q_t), (1, .ref q_a1), (2, .int x2)]) hx hb dX2_periodOf_50 hl (k := 3) rfl rfl (by decide) rfl (fun ls hl => ?_)
          refine lv_goto (tgt := 17) hx hb dX2_periodOf_53 (by decide) ?_
          exact ih (x3 + (1 : Int32)) u6 u7 u8 _ _ _ hw (lv_sub hl [1, 2, 3, 0] rfl) hf
        · have hf := (if_pos c10).symm.trans hf
          refine lv_iload_n hx hb dX2_periodOf_48 rfl (lv_at hl 3 rfl) ?_
          obtain ⟨rfl, rfl, rfl, rfl, rfl⟩ := pr5 (Option.some.inj hf)
          exact rt_i S hr hlk hw dX2_periodOf_49
  unfold f_X2_periodOf at hf
  refine lv_aload_n hx hb dX2_periodOf_0 rfl (lv_at hl 0 rfl) ?_
  refine g_get (ci := 2) (C := RX2) (T := TX2) (N := 2) S hinX2 hK hw 0 0 k12 dX2_periodOf_1 rfl rfl (by decide) rfl ?_
  refine lv_aload_n hx hb dX2_periodOf_4 rfl (lv_at hl 1 rfl) ?_
  refine g_getN (ci := 1) (C := RX1) (T := TX1) (N := 4) S hinX1 hK hN hw 2 0 nw_X2_22 dX2_periodOf_5 rfl rfl (by decide) rfl ?_
  refine lv_aload_n hx hb dX2_periodOf_8 rfl (lv_at hl 1 rfl) ?_
  refine g_getN (ci := 1) (C := RX1) (T := TX1) (N := 4) S hinX1 hK hN hw 2 1 nw_X2_26 dX2_periodOf_9 rfl rfl (by decide) rfl ?_
  obtain ⟨u1, u2, h3, hf⟩ := bd2_some hf
  refine cl_v (wr := [(q_t, .inr (2, [.ref q_t_ring, .ref q_t_seen])), (q_a1, .inr (1, [.int a1_size, .long a1_bits, .long a1_made, .int a1_carrierHas]))]) (ws' := [(q_t, .inr (2, [.ref q_t_ring, .ref q_t_seen])), (q_t_ring, .inr (1, [.int u1, .long u2, .long t_ring_made, .int t_ring_carrierHas])), (q_a1, .inr (1, [.int a1_size, .long a1_bits, .long a1_made, .int a1_carrierHas]))]) hA hw [1] [0, 2] [0, 2, 1] rfl rfl rfl (by decide) rfl rfl (va_runV (As := [.int a1_size, .long a1_bits]) (rest := []) S (c_X1_become l D cI cZ cJ cO _ q_t_ring N a1_size a1_bits t_ring_size t_ring_bits t_ring_made t_ring_carrierHas u1 u2 h3) (cwV 2 hts gX2_periodOf_X1_become rfl rfl rfl (by decide +kernel) ⟨Nat.le_of_ble_eq_true rfl, Nat.le_of_ble_eq_true rfl⟩) (pre_V hK hN hw [1] rfl rfl (C := RX1) (T := TX1) (N := 4) (ci := 1) (q0 := 0) rfl rfl) rfl rfl hl.1 rfl (lv_room (Nat.le_of_ble_eq_true rfl)) dX2_periodOf_12 ⟨Nat.zero_le _, Nat.zero_le _⟩) (fun H locs hw => ?_)
  refine lv_iconst (v := (1 : Int32)) hx hb dX2_periodOf_15 (by decide) ?_
  refine lv_istore_n (lv' := [(3, .int (1 : Int32)), (0, .ref q_t), (1, .ref q_a1), (2, .int p2)]) hx hb dX2_periodOf_16 rfl hl (by decide) rfl (fun ls hl => ?_)
  refine Lp17 p2 u1 _ (fun u11 u12 u13 H locs ls hw hl hf => ?_) N (1 : Int32) u2 t_ring_made t_ring_carrierHas _ _ _ hw (lv_sub hl [1, 2, 3, 0] rfl) hf
  refine lv_bipush (v := (-5 : Int32)) hx hb dX2_periodOf_56 (by decide) ?_
  obtain ⟨rfl, rfl, rfl, rfl, rfl⟩ := pr5 (Option.some.inj hf)
  exact rt_i S hr hlk hw dX2_periodOf_58

def f_J6_bitCount_0f7a4 (_ : Nat) (p0 : Int32)  : Option (Int32) :=
  (some ((((((((p0 - ((ushI p0 (1 : Int32)) &&& (1431655765 : Int32))) &&& (858993459 : Int32)) + ((ushI (p0 - ((ushI p0 (1 : Int32)) &&& (1431655765 : Int32))) (2 : Int32)) &&& (858993459 : Int32))) + (ushI (((p0 - ((ushI p0 (1 : Int32)) &&& (1431655765 : Int32))) &&& (858993459 : Int32)) + ((ushI (p0 - ((ushI p0 (1 : Int32)) &&& (1431655765 : Int32))) (2 : Int32)) &&& (858993459 : Int32))) (4 : Int32))) &&& (252645135 : Int32)) + (ushI (((((p0 - ((ushI p0 (1 : Int32)) &&& (1431655765 : Int32))) &&& (858993459 : Int32)) + ((ushI (p0 - ((ushI p0 (1 : Int32)) &&& (1431655765 : Int32))) (2 : Int32)) &&& (858993459 : Int32))) + (ushI (((p0 - ((ushI p0 (1 : Int32)) &&& (1431655765 : Int32))) &&& (858993459 : Int32)) + ((ushI (p0 - ((ushI p0 (1 : Int32)) &&& (1431655765 : Int32))) (2 : Int32)) &&& (858993459 : Int32))) (4 : Int32))) &&& (252645135 : Int32)) (8 : Int32))) + (ushI ((((((p0 - ((ushI p0 (1 : Int32)) &&& (1431655765 : Int32))) &&& (858993459 : Int32)) + ((ushI (p0 - ((ushI p0 (1 : Int32)) &&& (1431655765 : Int32))) (2 : Int32)) &&& (858993459 : Int32))) + (ushI (((p0 - ((ushI p0 (1 : Int32)) &&& (1431655765 : Int32))) &&& (858993459 : Int32)) + ((ushI (p0 - ((ushI p0 (1 : Int32)) &&& (1431655765 : Int32))) (2 : Int32)) &&& (858993459 : Int32))) (4 : Int32))) &&& (252645135 : Int32)) + (ushI (((((p0 - ((ushI p0 (1 : Int32)) &&& (1431655765 : Int32))) &&& (858993459 : Int32)) + ((ushI (p0 - ((ushI p0 (1 : Int32)) &&& (1431655765 : Int32))) (2 : Int32)) &&& (858993459 : Int32))) + (ushI (((p0 - ((ushI p0 (1 : Int32)) &&& (1431655765 : Int32))) &&& (858993459 : Int32)) + ((ushI (p0 - ((ushI p0 (1 : Int32)) &&& (1431655765 : Int32))) (2 : Int32)) &&& (858993459 : Int32))) (4 : Int32))) &&& (252645135 : Int32)) (8 : Int32))) (16 : Int32))) &&& (63 : Int32)))

set_option maxHeartbeats 4000000 in
set_option maxRecDepth 100000 in
theorem c_J6_bitCount_0f7a4 (l : Launch) (D : va_G) (cI cZ cJ cO : ClassId) (sz : Nat) (N : Nat) (p0 : Int32)  (r : Int32) (hf : f_J6_bitCount_0f7a4 N p0 = some r) : Met l yJ6_bitCount_0f7a4 wsJ6_bitCount_0f7a4 ({ frames := 0, cells := 0, slots := 0, locals := 0 }) (PreC D (TY cI cZ cJ cO) [.int p0] [] sz) (QcI D [] (va_A [] sz) r) 0 0 (va_A [] sz) := by
  refine ctr (cc := cJ6_bitCount_0f7a4) (maxL := 1) (ret := (some .int)) (by decide) rfl (Nat.le_of_ble_eq_true rfl) ?_
  intro p e s m below meth c S hr hlk hnm hK hN hsz hA hw ls hl
  generalize va_A [] sz = A at hA hw ⊢
  have S : CallFix p m c cJ6_bitCount_0f7a4 1 s ([.int p0] : List Value).toArray wsJ6_bitCount_0f7a4 RJ6 := S
  have hx := S.1
  have hb := S.2.1
  have hts := S.2.2.2.2
  have hl : lv_has ls 1 [(0, .int p0)] := hl
  unfold f_J6_bitCount_0f7a4 at hf
  refine lv_iload_n hx hb dJ6_bitCount_0f7a4_0 rfl (lv_at hl 0 rfl) ?_
  refine lv_iload_n hx hb dJ6_bitCount_0f7a4_1 rfl (lv_at hl 0 rfl) ?_
  refine lv_iconst (v := (1 : Int32)) hx hb dJ6_bitCount_0f7a4_2 (by decide) ?_
  refine lv_iushr (v := (ushI p0 (1 : Int32))) hx hb dJ6_bitCount_0f7a4_3 rfl ?_
  refine lv_ldcw (v := (1431655765 : Int32)) hx hb S.2.2.2.1 (hts (.constant RJ6 265 (1431655765)) (by decide +kernel)) dJ6_bitCount_0f7a4_4 ?_
  refine lv_iand hx hb dJ6_bitCount_0f7a4_7 ?_
  refine lv_isub hx hb dJ6_bitCount_0f7a4_8 ?_
  refine lv_istore_n (lv' := [(0, .int (p0 - ((ushI p0 (1 : Int32)) &&& (1431655765 : Int32))))]) hx hb dJ6_bitCount_0f7a4_9 rfl hl (by decide) rfl (fun ls hl => ?_)
  refine lv_iload_n hx hb dJ6_bitCount_0f7a4_10 rfl (lv_at hl 0 rfl) ?_
  refine lv_ldcw (v := (858993459 : Int32)) hx hb S.2.2.2.1 (hts (.constant RJ6 266 (858993459)) (by decide +kernel)) dJ6_bitCount_0f7a4_11 ?_
  refine lv_iand hx hb dJ6_bitCount_0f7a4_14 ?_
  refine lv_iload_n hx hb dJ6_bitCount_0f7a4_15 rfl (lv_at hl 0 rfl) ?_
  refine lv_iconst (v := (2 : Int32)) hx hb dJ6_bitCount_0f7a4_16 (by decide) ?_
  refine lv_iushr (v := (ushI (p0 - ((ushI p0 (1 : Int32)) &&& (1431655765 : Int32))) (2 : Int32))) hx hb dJ6_bitCount_0f7a4_17 rfl ?_
  refine lv_ldcw (v := (858993459 : Int32)) hx hb S.2.2.2.1 (hts (.constant RJ6 266 (858993459)) (by decide +kernel)) dJ6_bitCount_0f7a4_18 ?_
  refine lv_iand hx hb dJ6_bitCount_0f7a4_21 ?_
  refine lv_iadd hx hb dJ6_bitCount_0f7a4_22 ?_
  refine lv_istore_n (lv' := [(0, .int (((p0 - ((ushI p0 (1 : Int32)) &&& (1431655765 : Int32))) &&& (858993459 : Int32)) + ((ushI (p0 - ((ushI p0 (1 : Int32)) &&& (1431655765 : Int32))) (2 : Int32)) &&& (858993459 : Int32))))]) hx hb dJ6_bitCount_0f7a4_23 rfl hl (by decide) rfl (fun ls hl => ?_)
  refine lv_iload_n hx hb dJ6_bitCount_0f7a4_24 rfl (lv_at hl 0 rfl) ?_
  refine lv_iload_n hx hb dJ6_bitCount_0f7a4_25 rfl (lv_at hl 0 rfl) ?_
  refine lv_iconst (v := (4 : Int32)) hx hb dJ6_bitCount_0f7a4_26 (by decide) ?_
  refine lv_iushr (v := (ushI (((p0 - ((ushI p0 (1 : Int32)) &&& (1431655765 : Int32))) &&& (858993459 : Int32)) + ((ushI (p0 - ((ushI p0 (1 : Int32)) &&& (1431655765 : Int32))) (2 : Int32)) &&& (858993459 : Int32))) (4 : Int32))) hx hb dJ6_bitCount_0f7a4_27 rfl ?_
  refine lv_iadd hx hb dJ6_bitCount_0f7a4_28 ?_
  refine lv_ldcw (v := (252645135 : Int32)) hx hb S.2.2.2.1 (hts (.constant RJ6 267 (252645135)) (by decide +kernel)) dJ6_bitCount_0f7a4_29 ?_
  refine lv_iand hx hb dJ6_bitCount_0f7a4_32 ?_
  refine lv_istore_n (lv' := [(0, .int (((((p0 - ((ushI p0 (1 : Int32)) &&& (1431655765 : Int32))) &&& (858993459 : Int32)) + ((ushI (p0 - ((ushI p0 (1 : Int32)) &&& (1431655765 : Int32))) (2 : Int32)) &&& (858993459 : Int32))) + (ushI (((p0 - ((ushI p0 (1 : Int32)) &&& (1431655765 : Int32))) &&& (858993459 : Int32)) + ((ushI (p0 - ((ushI p0 (1 : Int32)) &&& (1431655765 : Int32))) (2 : Int32)) &&& (858993459 : Int32))) (4 : Int32))) &&& (252645135 : Int32)))]) hx hb dJ6_bitCount_0f7a4_33 rfl hl (by decide) rfl (fun ls hl => ?_)
  refine lv_iload_n hx hb dJ6_bitCount_0f7a4_34 rfl (lv_at hl 0 rfl) ?_
  refine lv_iload_n hx hb dJ6_bitCount_0f7a4_35 rfl (lv_at hl 0 rfl) ?_
  refine lv_bipush (v := (8 : Int32)) hx hb dJ6_bitCount_0f7a4_36 (by decide) ?_
  refine lv_iushr (v := (ushI (((((p0 - ((ushI p0 (1 : Int32)) &&& (1431655765 : Int32))) &&& (858993459 : Int32)) + ((ushI (p0 - ((ushI p0 (1 : Int32)) &&& (1431655765 : Int32))) (2 : Int32)) &&& (858993459 : Int32))) + (ushI (((p0 - ((ushI p0 (1 : Int32)) &&& (1431655765 : Int32))) &&& (858993459 : Int32)) + ((ushI (p0 - ((ushI p0 (1 : Int32)) &&& (1431655765 : Int32))) (2 : Int32)) &&& (858993459 : Int32))) (4 : Int32))) &&& (252645135 : Int32)) (8 : Int32))) hx hb dJ6_bitCount_0f7a4_38 rfl ?_
  refine lv_iadd hx hb dJ6_bitCount_0f7a4_39 ?_
  refine lv_istore_n (lv' := [(0, .int ((((((p0 - ((ushI p0 (1 : Int32)) &&& (1431655765 : Int32))) &&& (858993459 : Int32)) + ((ushI (p0 - ((ushI p0 (1 : Int32)) &&& (1431655765 : Int32))) (2 : Int32)) &&& (858993459 : Int32))) + (ushI (((p0 - ((ushI p0 (1 : Int32)) &&& (1431655765 : Int32))) &&& (858993459 : Int32)) + ((ushI (p0 - ((ushI p0 (1 : Int32)) &&& (1431655765 : Int32))) (2 : Int32)) &&& (858993459 : Int32))) (4 : Int32))) &&& (252645135 : Int32)) + (ushI (((((p0 - ((ushI p0 (1 : Int32)) &&& (1431655765 : Int32))) &&& (858993459 : Int32)) + ((ushI (p0 - ((ushI p0 (1 : Int32)) &&& (1431655765 : Int32))) (2 : Int32)) &&& (858993459 : Int32))) + (ushI (((p0 - ((ushI p0 (1 : Int32)) &&& (1431655765 : Int32))) &&& (858993459 : Int32)) + ((ushI (p0 - ((ushI p0 (1 : Int32)) &&& (1431655765 : Int32))) (2 : Int32)) &&& (858993459 : Int32))) (4 : Int32))) &&& (252645135 : Int32)) (8 : Int32))))]) hx hb dJ6_bitCount_0f7a4_40 rfl hl (by decide) rfl (fun ls hl => ?_)
  refine lv_iload_n hx hb dJ6_bitCount_0f7a4_41 rfl (lv_at hl 0 rfl) ?_
  refine lv_iload_n hx hb dJ6_bitCount_0f7a4_42 rfl (lv_at hl 0 rfl) ?_
  refine lv_bipush (v := (16 : Int32)) hx hb dJ6_bitCount_0f7a4_43 (by decide) ?_
  refine lv_iushr (v := (ushI ((((((p0 - ((ushI p0 (1 : Int32)) &&& (1431655765 : Int32))) &&& (858993459 : Int32)) + ((ushI (p0 - ((ushI p0 (1 : Int32)) &&& (1431655765 : Int32))) (2 : Int32)) &&& (858993459 : Int32))) + (ushI (((p0 - ((ushI p0 (1 : Int32)) &&& (1431655765 : Int32))) &&& (858993459 : Int32)) + ((ushI (p0 - ((ushI p0 (1 : Int32)) &&& (1431655765 : Int32))) (2 : Int32)) &&& (858993459 : Int32))) (4 : Int32))) &&& (252645135 : Int32)) + (ushI (((((p0 - ((ushI p0 (1 : Int32)) &&& (1431655765 : Int32))) &&& (858993459 : Int32)) + ((ushI (p0 - ((ushI p0 (1 : Int32)) &&& (1431655765 : Int32))) (2 : Int32)) &&& (858993459 : Int32))) + (ushI (((p0 - ((ushI p0 (1 : Int32)) &&& (1431655765 : Int32))) &&& (858993459 : Int32)) + ((ushI (p0 - ((ushI p0 (1 : Int32)) &&& (1431655765 : Int32))) (2 : Int32)) &&& (858993459 : Int32))) (4 : Int32))) &&& (252645135 : Int32)) (8 : Int32))) (16 : Int32))) hx hb dJ6_bitCount_0f7a4_45 rfl ?_
  refine lv_iadd hx hb dJ6_bitCount_0f7a4_46 ?_
  refine lv_istore_n (lv' := [(0, .int (((((((p0 - ((ushI p0 (1 : Int32)) &&& (1431655765 : Int32))) &&& (858993459 : Int32)) + ((ushI (p0 - ((ushI p0 (1 : Int32)) &&& (1431655765 : Int32))) (2 : Int32)) &&& (858993459 : Int32))) + (ushI (((p0 - ((ushI p0 (1 : Int32)) &&& (1431655765 : Int32))) &&& (858993459 : Int32)) + ((ushI (p0 - ((ushI p0 (1 : Int32)) &&& (1431655765 : Int32))) (2 : Int32)) &&& (858993459 : Int32))) (4 : Int32))) &&& (252645135 : Int32)) + (ushI (((((p0 - ((ushI p0 (1 : Int32)) &&& (1431655765 : Int32))) &&& (858993459 : Int32)) + ((ushI (p0 - ((ushI p0 (1 : Int32)) &&& (1431655765 : Int32))) (2 : Int32)) &&& (858993459 : Int32))) + (ushI (((p0 - ((ushI p0 (1 : Int32)) &&& (1431655765 : Int32))) &&& (858993459 : Int32)) + ((ushI (p0 - ((ushI p0 (1 : Int32)) &&& (1431655765 : Int32))) (2 : Int32)) &&& (858993459 : Int32))) (4 : Int32))) &&& (252645135 : Int32)) (8 : Int32))) + (ushI ((((((p0 - ((ushI p0 (1 : Int32)) &&& (1431655765 : Int32))) &&& (858993459 : Int32)) + ((ushI (p0 - ((ushI p0 (1 : Int32)) &&& (1431655765 : Int32))) (2 : Int32)) &&& (858993459 : Int32))) + (ushI (((p0 - ((ushI p0 (1 : Int32)) &&& (1431655765 : Int32))) &&& (858993459 : Int32)) + ((ushI (p0 - ((ushI p0 (1 : Int32)) &&& (1431655765 : Int32))) (2 : Int32)) &&& (858993459 : Int32))) (4 : Int32))) &&& (252645135 : Int32)) + (ushI (((((p0 - ((ushI p0 (1 : Int32)) &&& (1431655765 : Int32))) &&& (858993459 : Int32)) + ((ushI (p0 - ((ushI p0 (1 : Int32)) &&& (1431655765 : Int32))) (2 : Int32)) &&& (858993459 : Int32))) + (ushI (((p0 - ((ushI p0 (1 : Int32)) &&& (1431655765 : Int32))) &&& (858993459 : Int32)) + ((ushI (p0 - ((ushI p0 (1 : Int32)) &&& (1431655765 : Int32))) (2 : Int32)) &&& (858993459 : Int32))) (4 : Int32))) &&& (252645135 : Int32)) (8 : Int32))) (16 : Int32))))]) hx hb dJ6_bitCount_0f7a4_47 rfl hl (by decide) rfl (fun ls hl => ?_)
  refine lv_iload_n hx hb dJ6_bitCount_0f7a4_48 rfl (lv_at hl 0 rfl) ?_
  refine lv_bipush (v := (63 : Int32)) hx hb dJ6_bitCount_0f7a4_49 (by decide) ?_
  refine lv_iand hx hb dJ6_bitCount_0f7a4_51 ?_
  obtain rfl := Option.some.inj hf
  exact rt_i S hr hlk hw dJ6_bitCount_0f7a4_52

def L_X2_countAll_5 (N : Nat) (x1 : Int32) (x2 : Int32) (K : Int32 → Option (Int32)) : Nat → Int32 → Int32 → Option (Int32)
  | 0, _, _ => none
  | n + 1, x3, x4 => (if ((1 : Int32) <<< (x1 &&& 31)) ≤ x4 then (K x3) else (bd1 (f_J6_bitCount_0f7a4 N x4) (fun r2 => (if r2 = x2 then (L_X2_countAll_5 N x1 x2 K n (x3 + (1 : Int32)) (x4 + (1 : Int32))) else (L_X2_countAll_5 N x1 x2 K n x3 (x4 + (1 : Int32)))))))

def f_X2_countAll (N : Nat) (p1 : Int32) (p2 : Int32)  : Option (Int32) :=
  (L_X2_countAll_5 N p1 p2 (fun y5 => (some y5)) N (0 : Int32) (0 : Int32))

set_option maxHeartbeats 4000000 in
set_option maxRecDepth 100000 in
theorem c_X2_countAll (l : Launch) (D : va_G) (cI cZ cJ cO : ClassId) (sz : Nat) (q_t q_t_ring q_t_seen : Nat) (N : Nat) (p1 : Int32) (p2 : Int32)  (r : Int32) (hf : f_X2_countAll N p1 p2 = some r) : Met l yX2_countAll wsX2_countAll ({ frames := 1, cells := 0, slots := 0, locals := 20 }) (PreC D (TY cI cZ cJ cO) [.ref q_t, .int p1, .int p2] [(q_t, .inr (2, [.ref q_t_ring, .ref q_t_seen]))] sz) (QcI D [(q_t, .inr (2, [.ref q_t_ring, .ref q_t_seen]))] (va_A [(q_t, .inr (2, [.ref q_t_ring, .ref q_t_seen]))] sz) r) 0 0 (va_A [(q_t, .inr (2, [.ref q_t_ring, .ref q_t_seen]))] sz) := by
  refine ctr (cc := cX2_countAll) (maxL := 5) (ret := (some .int)) (by decide) rfl (Nat.le_of_ble_eq_true rfl) ?_
  intro p e s m below meth c S hr hlk hnm hK hN hsz hA hw ls hl
  generalize va_A [(q_t, .inr (2, [.ref q_t_ring, .ref q_t_seen]))] sz = A at hA hw ⊢
  have S : CallFix p m c cX2_countAll 5 s ([.ref q_t, .int p1, .int p2] : List Value).toArray wsX2_countAll RX2 := S
  have hx := S.1
  have hb := S.2.1
  have hts := S.2.2.2.2
  have hl : lv_has ls 5 [(0, .ref q_t), (1, .int p1), (2, .int p2)] := hl
  have Lp5 : ∀ (x1 : Int32) (x2 : Int32) (K : Int32 → Option (Int32)), (∀ (z3 : Int32) (H : Heap) (locs : List Loc) (ls : Array Slot), Wd D A s.heap [(q_t, .inr (2, [.ref q_t_ring, .ref q_t_seen]))] H locs → lv_has ls 5 [(3, .int z3)] → K z3 = some r → W p l e ({ frames := 1, cells := 0, slots := 0, locals := 20 } : Room) s m ([.ref q_t, .int p1, .int p2] : List Value).toArray below meth c H locs 0 0 (MQ below (QcI D [(q_t, .inr (2, [.ref q_t_ring, .ref q_t_seen]))] A r) ([.ref q_t, .int p1, .int p2] : List Value).toArray s 0 0 A) (F0 m 31 ls [])) → ∀ (n : Nat) (x3 : Int32) (x4 : Int32) (H : Heap) (locs : List Loc) (ls : Array Slot), Wd D A s.heap [(q_t, .inr (2, [.ref q_t_ring, .ref q_t_seen]))] H locs → lv_has ls 5 [(1, .int x1), (2, .int x2), (3, .int x3), (4, .int x4)] → L_X2_countAll_5 N x1 x2 K n x3 x4 = some r → W p l e ({ frames := 1, cells := 0, slots := 0, locals := 20 } : Room) s m ([.ref q_t, .int p1, .int p2] : List Value).toArray below meth c H locs 0 0 (MQ below (QcI D [(q_t, .inr (2, [.ref q_t_ring, .ref q_t_seen]))] A r) ([.ref q_t, .int p1, .int p2] : List Value).toArray s 0 0 A) (F0 m 5 ls []) := by
    intro x1 x2 K hKx n
    induction n with
    | zero =>
      intro x3 x4 H locs ls hw hl hf
      rw [L_X2_countAll_5] at hf
      cases hf
    | succ n ih =>
      intro x3 x4 H locs ls hw hl hf
      rw [L_X2_countAll_5] at hf
      refine lv_iload hx hb dX2_countAll_5 (lv_at hl 3 rfl) ?_
      refine lv_iconst (v := (1 : Int32)) hx hb dX2_countAll_7 (by decide) ?_
      refine lv_iload_n hx hb dX2_countAll_8 rfl (lv_at hl 0 rfl) ?_
      refine lv_ishl hx hb dX2_countAll_9 ?_
      refine lv_icmp_ge (tgt := 31) hx hb dX2_countAll_10 (by decide) (fun c1 => ?_) (fun c1 => ?_)
      · have hf := (if_pos c1).symm.trans hf
        exact hKx x3 _ _ _ hw (lv_sub hl [2] rfl) hf
      · have hf := (if_neg c1).symm.trans hf
        refine lv_iload hx hb dX2_countAll_13 (lv_at hl 3 rfl) ?_
        obtain ⟨r2, h3, hf⟩ := bd1_some hf
        refine cl_i (wr := [(q_t, .inr (2, [.ref q_t_ring, .ref q_t_seen]))]) (ws' := [(q_t, .inr (2, [.ref q_t_ring, .ref q_t_seen]))]) hA hw [] [0] [0] rfl rfl rfl (by decide) rfl rfl (va_runS (As := [.int x4]) (rest := []) S (c_J6_bitCount_0f7a4 l D cI cZ cJ cO _ N x4 r2 h3) (va_cwS 1 hts gX2_countAll_J6_bitCount_0f7a4 rfl rfl rfl (by decide +kernel) ⟨Nat.le_of_ble_eq_true rfl, Nat.le_of_ble_eq_true rfl⟩) (pre_S hK hN hw [] rfl rfl) rfl rfl hl.1 rfl (lv_room (Nat.le_of_ble_eq_true rfl)) dX2_countAll_15 ⟨Nat.zero_le _, Nat.zero_le _⟩) (fun H locs hw => ?_)
        refine lv_iload_n hx hb dX2_countAll_18 rfl (lv_at hl 1 rfl) ?_
        refine lv_icmp_ne (tgt := 25) hx hb dX2_countAll_19 (by decide) (fun c4 => ?_) (fun c4 => ?_)
        · have hf := (if_neg c4).symm.trans hf
          refine lv_iinc (v := (x4 + (1 : Int32))) (lv' := [(4, .int (x4 + (1 : Int32))), (1, .int x1), (2, .int x2), (3, .int x3)]) hx hb dX2_countAll_25 hl (k := 3) rfl rfl (by decide) rfl (fun ls hl => ?_)
          refine lv_goto (tgt := 5) hx hb dX2_countAll_28 (by decide) ?_
          exact ih x3 (x4 + (1 : Int32)) _ _ _ hw (lv_sub hl [1, 2, 3, 0] rfl) hf
        · have hf := (if_pos c4).symm.trans hf
          refine lv_iinc (v := (x3 + (1 : Int32))) (lv' := [(3, .int (x3 + (1 : Int32))), (1, .int x1), (2, .int x2), (4, .int x4)]) hx hb dX2_countAll_22 hl (k := 2) rfl rfl (by decide) rfl (fun ls hl => ?_)
          refine lv_iinc (v := (x4 + (1 : Int32))) (lv' := [(4, .int (x4 + (1 : Int32))), (3, .int (x3 + (1 : Int32))), (1, .int x1), (2, .int x2)]) hx hb dX2_countAll_25 hl (k := 3) rfl rfl (by decide) rfl (fun ls hl => ?_)
          refine lv_goto (tgt := 5) hx hb dX2_countAll_28 (by decide) ?_
          exact ih (x3 + (1 : Int32)) (x4 + (1 : Int32)) _ _ _ hw (lv_sub hl [2, 3, 1, 0] rfl) hf
  unfold f_X2_countAll at hf
  refine lv_iconst (v := (0 : Int32)) hx hb dX2_countAll_0 (by decide) ?_
  refine lv_istore_n (lv' := [(3, .int (0 : Int32)), (0, .ref q_t), (1, .int p1), (2, .int p2)]) hx hb dX2_countAll_1 rfl hl (by decide) rfl (fun ls hl => ?_)
  refine lv_iconst (v := (0 : Int32)) hx hb dX2_countAll_2 (by decide) ?_
  refine lv_istore (lv' := [(4, .int (0 : Int32)), (3, .int (0 : Int32)), (0, .ref q_t), (1, .int p1), (2, .int p2)]) hx hb dX2_countAll_3 hl (by decide) rfl (fun ls hl => ?_)
  refine Lp5 p1 p2 _ (fun y5 H locs ls hw hl hf => ?_) N (0 : Int32) (0 : Int32) _ _ _ hw (lv_sub hl [3, 4, 1, 0] rfl) hf
  refine lv_iload_n hx hb dX2_countAll_31 rfl (lv_at hl 0 rfl) ?_
  obtain rfl := Option.some.inj hf
  exact rt_i S hr hlk hw dX2_countAll_32

def L_X2_forget_2 (N : Nat) (K : (Nat → Int64) → Option ((Nat → Int64))) : Nat → Int32 → (Nat → Int64) → Option ((Nat → Int64))
  | 0, _, _ => none
  | n + 1, x1, w_t_seen => (if (64 : Int32) ≤ x1 then (K w_t_seen) else (ck (inb x1 64) (L_X2_forget_2 N K n (x1 + (1 : Int32)) (vp_updL w_t_seen x1.toNatClampNeg (0 : Int64)))))

def f_X2_forget (N : Nat)  (t_seen : (Nat → Int64)) : Option ((Nat → Int64)) :=
  (L_X2_forget_2 N  (fun u3 => (some u3)) N (0 : Int32) t_seen)

set_option maxHeartbeats 4000000 in
set_option maxRecDepth 100000 in
theorem c_X2_forget (l : Launch) (D : va_G) (cI cZ cJ cO : ClassId) (sz : Nat) (q_t q_t_ring q_t_seen : Nat) (N : Nat)  (t_seen : (Nat → Int64)) (o_t_seen : (Nat → Int64)) (hf : f_X2_forget N t_seen = some o_t_seen) : Met l yX2_forget wsX2_forget ({ frames := 0, cells := 0, slots := 0, locals := 0 }) (PreC D (TY cI cZ cJ cO) [.ref q_t] [(q_t, .inr (2, [.ref q_t_ring, .ref q_t_seen])), (q_t_seen, .inl (cJ, 64, .inr (.inl t_seen)))] sz) (QcV D [(q_t, .inr (2, [.ref q_t_ring, .ref q_t_seen])), (q_t_seen, .inl (cJ, 64, .inr (.inl o_t_seen)))] (va_A [(q_t, .inr (2, [.ref q_t_ring, .ref q_t_seen])), (q_t_seen, .inl (cJ, 64, .inr (.inl t_seen)))] sz)) 0 0 (va_A [(q_t, .inr (2, [.ref q_t_ring, .ref q_t_seen])), (q_t_seen, .inl (cJ, 64, .inr (.inl t_seen)))] sz) := by
  refine ctr (cc := cX2_forget) (maxL := 2) (ret := none) (by decide) rfl (Nat.le_of_ble_eq_true rfl) ?_
  intro p e s m below meth c S hr hlk hnm hK hN hsz hA hw ls hl
  generalize va_A [(q_t, .inr (2, [.ref q_t_ring, .ref q_t_seen])), (q_t_seen, .inl (cJ, 64, .inr (.inl t_seen)))] sz = A at hA hw ⊢
  have S : CallFix p m c cX2_forget 2 s ([.ref q_t] : List Value).toArray wsX2_forget RX2 := S
  have hx := S.1
  have hb := S.2.1
  have hts := S.2.2.2.2
  have hl : lv_has ls 2 [(0, .ref q_t)] := hl
  have hinX2 : ∀ w ∈ u_ws RX2 TX2 2, w ∈ wsX2_forget := by decide +kernel
  have k18 : Cond.fieldLink RX2 18 "BallBoxes$RingTrial" "seen" "[J" ∈ wsX2_forget := by decide +kernel
  have Lp2 : ∀  (K : (Nat → Int64) → Option ((Nat → Int64))), (∀ (z_t_seen : (Nat → Int64)) (H : Heap) (locs : List Loc) (ls : Array Slot), Wd D A s.heap [(q_t, .inr (2, [.ref q_t_ring, .ref q_t_seen])), (q_t_seen, .inl (cJ, 64, .inr (.inl z_t_seen)))] H locs → lv_has ls 2 [] → K z_t_seen = some o_t_seen → W p l e ({ frames := 0, cells := 0, slots := 0, locals := 0 } : Room) s m ([.ref q_t] : List Value).toArray below meth c H locs 0 0 (MQ below (QcV D [(q_t, .inr (2, [.ref q_t_ring, .ref q_t_seen])), (q_t_seen, .inl (cJ, 64, .inr (.inl o_t_seen)))] A) ([.ref q_t] : List Value).toArray s 0 0 A) (F0 m 24 ls [])) → ∀ (n : Nat) (x1 : Int32) (w_t_seen : (Nat → Int64)) (H : Heap) (locs : List Loc) (ls : Array Slot), Wd D A s.heap [(q_t, .inr (2, [.ref q_t_ring, .ref q_t_seen])), (q_t_seen, .inl (cJ, 64, .inr (.inl w_t_seen)))] H locs → lv_has ls 2 [(0, .ref q_t), (1, .int x1)] → L_X2_forget_2 N K n x1 w_t_seen = some o_t_seen → W p l e ({ frames := 0, cells := 0, slots := 0, locals := 0 } : Room) s m ([.ref q_t] : List Value).toArray below meth c H locs 0 0 (MQ below (QcV D [(q_t, .inr (2, [.ref q_t_ring, .ref q_t_seen])), (q_t_seen, .inl (cJ, 64, .inr (.inl o_t_seen)))] A) ([.ref q_t] : List Value).toArray s 0 0 A) (F0 m 2 ls []) := by
    intro  K hKx n
    induction n with
    | zero =>
      intro x1 w_t_seen H locs ls hw hl hf
      rw [L_X2_forget_2] at hf
      cases hf
    | succ n ih =>
      intro x1 w_t_seen H locs ls hw hl hf
      rw [L_X2_forget_2] at hf
      refine lv_iload_n hx hb dX2_forget_2 rfl (lv_at hl 1 rfl) ?_
      refine lv_aload_n hx hb dX2_forget_3 rfl (lv_at hl 0 rfl) ?_
      refine g_get (ci := 2) (C := RX2) (T := TX2) (N := 2) S hinX2 hK hw 0 1 k18 dX2_forget_4 rfl rfl (by decide) rfl ?_
      refine va_alen hx hb hK hw.1 1 2 rfl rfl (v := (64 : Int32)) rfl dX2_forget_7 ?_
      refine lv_icmp_ge (tgt := 24) hx hb dX2_forget_8 (by decide) (fun c1 => ?_) (fun c1 => ?_)
      · have hf := (if_pos c1).symm.trans hf
        exact hKx w_t_seen _ _ _ hw (lv_sub hl [] rfl) hf
      · have hf := (if_neg c1).symm.trans hf
        refine lv_aload_n hx hb dX2_forget_11 rfl (lv_at hl 0 rfl) ?_
        refine g_get (ci := 2) (C := RX2) (T := TX2) (N := 2) S hinX2 hK hw 0 1 k18 dX2_forget_12 rfl rfl (by decide) rfl ?_
        refine lv_iload_n hx hb dX2_forget_15 rfl (lv_at hl 1 rfl) ?_
        refine lv_lconst (v := (0 : Int64)) hx hb dX2_forget_16 (by decide) ?_
        obtain ⟨b2, hf⟩ := ck_some hf
        refine g_last (ws' := [(q_t, .inr (2, [.ref q_t_ring, .ref q_t_seen])), (q_t_seen, .inl (cJ, 64, .inr (.inl (vp_updL w_t_seen x1.toNatClampNeg (0 : Int64)))))]) S hK hw 1 2 b2 dX2_forget_17 rfl rfl rfl (fun H locs hw => ?_)
        refine lv_iinc (v := (x1 + (1 : Int32))) (lv' := [(1, .int (x1 + (1 : Int32))), (0, .ref q_t)]) hx hb dX2_forget_18 hl (k := 1) rfl rfl (by decide) rfl (fun ls hl => ?_)
        refine lv_goto (tgt := 2) hx hb dX2_forget_21 (by decide) ?_
        exact ih (x1 + (1 : Int32)) (vp_updL w_t_seen x1.toNatClampNeg (0 : Int64)) _ _ _ hw (lv_sub hl [1, 0] rfl) hf
  unfold f_X2_forget at hf
  refine lv_iconst (v := (0 : Int32)) hx hb dX2_forget_0 (by decide) ?_
  refine lv_istore_n (lv' := [(1, .int (0 : Int32)), (0, .ref q_t)]) hx hb dX2_forget_1 rfl hl (by decide) rfl (fun ls hl => ?_)
  refine Lp2  _ (fun u3 H locs ls hw hl hf => ?_) N (0 : Int32) t_seen _ _ _ hw (lv_sub hl [1, 0] rfl) hf
  obtain rfl := Option.some.inj hf
  exact rt_v S hr hlk hw dX2_forget_24

def f_X2_see (_ : Nat) (p1 : Int32) (t_seen : (Nat → Int64)) : Option ((Nat → Int64)) :=
  (if (64 : Int32) ≤ (ushI p1 (6 : Int32)) then (some t_seen) else (ck (inb (ushI p1 (6 : Int32)) 64) (ck (inb (ushI p1 (6 : Int32)) 64) (some (vp_updL t_seen (ushI p1 (6 : Int32)).toNatClampNeg ((t_seen (ushI p1 (6 : Int32)).toNatClampNeg) ||| (shlL (1 : Int64) (p1 &&& (63 : Int32)))))))))

set_option maxHeartbeats 4000000 in
set_option maxRecDepth 100000 in
theorem c_X2_see (l : Launch) (D : va_G) (cI cZ cJ cO : ClassId) (sz : Nat) (q_t q_t_ring q_t_seen : Nat) (N : Nat) (p1 : Int32) (t_seen : (Nat → Int64)) (o_t_seen : (Nat → Int64)) (hf : f_X2_see N p1 t_seen = some o_t_seen) : Met l yX2_see wsX2_see ({ frames := 0, cells := 0, slots := 0, locals := 0 }) (PreC D (TY cI cZ cJ cO) [.ref q_t, .int p1] [(q_t, .inr (2, [.ref q_t_ring, .ref q_t_seen])), (q_t_seen, .inl (cJ, 64, .inr (.inl t_seen)))] sz) (QcV D [(q_t, .inr (2, [.ref q_t_ring, .ref q_t_seen])), (q_t_seen, .inl (cJ, 64, .inr (.inl o_t_seen)))] (va_A [(q_t, .inr (2, [.ref q_t_ring, .ref q_t_seen])), (q_t_seen, .inl (cJ, 64, .inr (.inl t_seen)))] sz)) 0 0 (va_A [(q_t, .inr (2, [.ref q_t_ring, .ref q_t_seen])), (q_t_seen, .inl (cJ, 64, .inr (.inl t_seen)))] sz) := by
  refine ctr (cc := cX2_see) (maxL := 3) (ret := none) (by decide) rfl (Nat.le_of_ble_eq_true rfl) ?_
  intro p e s m below meth c S hr hlk hnm hK hN hsz hA hw ls hl
  generalize va_A [(q_t, .inr (2, [.ref q_t_ring, .ref q_t_seen])), (q_t_seen, .inl (cJ, 64, .inr (.inl t_seen)))] sz = A at hA hw ⊢
  have S : CallFix p m c cX2_see 3 s ([.ref q_t, .int p1] : List Value).toArray wsX2_see RX2 := S
  have hx := S.1
  have hb := S.2.1
  have hts := S.2.2.2.2
  have hl : lv_has ls 3 [(0, .ref q_t), (1, .int p1)] := hl
  have hinX2 : ∀ w ∈ u_ws RX2 TX2 2, w ∈ wsX2_see := by decide +kernel
  have k18 : Cond.fieldLink RX2 18 "BallBoxes$RingTrial" "seen" "[J" ∈ wsX2_see := by decide +kernel
  unfold f_X2_see at hf
  refine lv_iload_n hx hb dX2_see_0 rfl (lv_at hl 1 rfl) ?_
  refine lv_bipush (v := (6 : Int32)) hx hb dX2_see_1 (by decide) ?_
  refine lv_iushr (v := (ushI p1 (6 : Int32))) hx hb dX2_see_3 rfl ?_
  refine lv_istore_n (lv' := [(2, .int (ushI p1 (6 : Int32))), (0, .ref q_t), (1, .int p1)]) hx hb dX2_see_4 rfl hl (by decide) rfl (fun ls hl => ?_)
  refine lv_iload_n hx hb dX2_see_5 rfl (lv_at hl 0 rfl) ?_
  refine lv_aload_n hx hb dX2_see_6 rfl (lv_at hl 1 rfl) ?_
  refine g_get (ci := 2) (C := RX2) (T := TX2) (N := 2) S hinX2 hK hw 0 1 k18 dX2_see_7 rfl rfl (by decide) rfl ?_
  refine va_alen hx hb hK hw.1 1 2 rfl rfl (v := (64 : Int32)) rfl dX2_see_10 ?_
  refine lv_icmp_ge (tgt := 29) hx hb dX2_see_11 (by decide) (fun c1 => ?_) (fun c1 => ?_)
  · have hf := (if_pos c1).symm.trans hf
    obtain rfl := Option.some.inj hf
    exact rt_v S hr hlk hw dX2_see_29
  · have hf := (if_neg c1).symm.trans hf
    refine lv_aload_n hx hb dX2_see_14 rfl (lv_at hl 1 rfl) ?_
    refine g_get (ci := 2) (C := RX2) (T := TX2) (N := 2) S hinX2 hK hw 0 1 k18 dX2_see_15 rfl rfl (by decide) rfl ?_
    refine lv_iload_n hx hb dX2_see_18 rfl (lv_at hl 0 rfl) ?_
    refine lv_dup2_11 hx hb dX2_see_19 rfl rfl ?_
    obtain ⟨b2, hf⟩ := ck_some hf
    refine g_lald S hK hw 1 2 b2 dX2_see_20 rfl rfl ?_
    refine lv_lconst (v := (1 : Int64)) hx hb dX2_see_21 (by decide) ?_
    refine lv_iload_n hx hb dX2_see_22 rfl (lv_at hl 2 rfl) ?_
    refine lv_bipush (v := (63 : Int32)) hx hb dX2_see_23 (by decide) ?_
    refine lv_iand hx hb dX2_see_25 ?_
    refine lv_lshl (v := (shlL (1 : Int64) (p1 &&& (63 : Int32)))) hx hb dX2_see_26 rfl ?_
    refine lv_lor hx hb dX2_see_27 ?_
    obtain ⟨b3, hf⟩ := ck_some hf
    refine g_last (ws' := [(q_t, .inr (2, [.ref q_t_ring, .ref q_t_seen])), (q_t_seen, .inl (cJ, 64, .inr (.inl (vp_updL t_seen (ushI p1 (6 : Int32)).toNatClampNeg ((t_seen (ushI p1 (6 : Int32)).toNatClampNeg) ||| (shlL (1 : Int64) (p1 &&& (63 : Int32))))))))]) S hK hw 1 2 b3 dX2_see_28 rfl rfl rfl (fun H locs hw => ?_)
    obtain rfl := Option.some.inj hf
    exact rt_v S hr hlk hw dX2_see_29

def L_X2_goThrough_13 (N : Nat) (x2 : Int32) (x3 : Int32) (w_t_ring_size : Int32) (K : Int64 → Int64 → Int32 → (Nat → Int64) → Option (Int32 × Int32 × Int64 × Int64 × Int32 × (Nat → Int64))) : Nat → Int32 → Int64 → Int64 → Int32 → (Nat → Int64) → Option (Int32 × Int32 × Int64 × Int64 × Int32 × (Nat → Int64))
  | 0, _, _, _, _, _ => none
  | n + 1, x4, w_t_ring_bits, w_t_ring_made, w_t_ring_carrierHas, w_t_seen => (if (20000 : Int32) < x4 then (K w_t_ring_bits w_t_ring_made w_t_ring_carrierHas w_t_seen) else (bd4 (f_X1_turnBy N x3 w_t_ring_size w_t_ring_bits w_t_ring_made w_t_ring_carrierHas) (fun r5 u6 u7 u8 => (bd1 (f_X2_see N u6.toInt32 w_t_seen) (fun u10 => (if (lg_cmp u6 x2.toInt64) = (0 : Int32) then (some (x4, w_t_ring_size, u6, u7, u8, u10)) else (L_X2_goThrough_13 N x2 x3 w_t_ring_size K n (x4 + (1 : Int32)) u6 u7 u8 u10)))))))

def f_X2_goThrough (N : Nat) (p1 : Int32) (p2 : Int32) (p3 : Int32) (t_ring_size : Int32) (t_ring_bits : Int64) (t_ring_made : Int64) (t_ring_carrierHas : Int32) (t_seen : (Nat → Int64)) : Option (Int32 × Int32 × Int64 × Int64 × Int32 × (Nat → Int64)) :=
  (bd2 (f_X1_become N p1 p2.toInt64 t_ring_size t_ring_bits) (fun u1 u2 => (L_X2_goThrough_13 N p2 p3 u1 (fun u13 u14 u15 u16 => (some ((-5 : Int32), u1, u13, u14, u15, u16))) N (1 : Int32) u2 t_ring_made t_ring_carrierHas t_seen)))

set_option maxHeartbeats 4000000 in
set_option maxRecDepth 100000 in
theorem c_X2_goThrough (l : Launch) (D : va_G) (cI cZ cJ cO : ClassId) (sz : Nat) (q_t q_t_ring q_t_seen : Nat) (N : Nat) (p1 : Int32) (p2 : Int32) (p3 : Int32) (t_ring_size : Int32) (t_ring_bits : Int64) (t_ring_made : Int64) (t_ring_carrierHas : Int32) (t_seen : (Nat → Int64)) (r : Int32) (o_t_ring_size : Int32) (o_t_ring_bits : Int64) (o_t_ring_made : Int64) (o_t_ring_carrierHas : Int32) (o_t_seen : (Nat → Int64)) (hf : f_X2_goThrough N p1 p2 p3 t_ring_size t_ring_bits t_ring_made t_ring_carrierHas t_seen = some (r, o_t_ring_size, o_t_ring_bits, o_t_ring_made, o_t_ring_carrierHas, o_t_seen)) : Met l yX2_goThrough wsX2_goThrough ({ frames := 3, cells := 0, slots := 0, locals := 72 }) (PreC D (TY cI cZ cJ cO) [.ref q_t, .int p1, .int p2, .int p3] [(q_t, .inr (2, [.ref q_t_ring, .ref q_t_seen])), (q_t_ring, .inr (1, [.int t_ring_size, .long t_ring_bits, .long t_ring_made, .int t_ring_carrierHas])), (q_t_seen, .inl (cJ, 64, .inr (.inl t_seen)))] sz) (QcI D [(q_t, .inr (2, [.ref q_t_ring, .ref q_t_seen])), (q_t_ring, .inr (1, [.int o_t_ring_size, .long o_t_ring_bits, .long o_t_ring_made, .int o_t_ring_carrierHas])), (q_t_seen, .inl (cJ, 64, .inr (.inl o_t_seen)))] (va_A [(q_t, .inr (2, [.ref q_t_ring, .ref q_t_seen])), (q_t_ring, .inr (1, [.int t_ring_size, .long t_ring_bits, .long t_ring_made, .int t_ring_carrierHas])), (q_t_seen, .inl (cJ, 64, .inr (.inl t_seen)))] sz) r) 0 0 (va_A [(q_t, .inr (2, [.ref q_t_ring, .ref q_t_seen])), (q_t_ring, .inr (1, [.int t_ring_size, .long t_ring_bits, .long t_ring_made, .int t_ring_carrierHas])), (q_t_seen, .inl (cJ, 64, .inr (.inl t_seen)))] sz) := by
  refine ctr (cc := cX2_goThrough) (maxL := 5) (ret := (some .int)) (by decide) rfl (Nat.le_of_ble_eq_true rfl) ?_
  intro p e s m below meth c S hr hlk hnm hK hN hsz hA hw ls hl
  generalize va_A [(q_t, .inr (2, [.ref q_t_ring, .ref q_t_seen])), (q_t_ring, .inr (1, [.int t_ring_size, .long t_ring_bits, .long t_ring_made, .int t_ring_carrierHas])), (q_t_seen, .inl (cJ, 64, .inr (.inl t_seen)))] sz = A at hA hw ⊢
  have S : CallFix p m c cX2_goThrough 5 s ([.ref q_t, .int p1, .int p2, .int p3] : List Value).toArray wsX2_goThrough RX2 := S
  have hx := S.1
  have hb := S.2.1
  have hts := S.2.2.2.2
  have hl : lv_has ls 5 [(0, .ref q_t), (1, .int p1), (2, .int p2), (3, .int p3)] := hl
  have hinX1 : ∀ w ∈ u_ws RX1 TX1 4, w ∈ wsX2_goThrough := by decide +kernel
  have hinX2 : ∀ w ∈ u_ws RX2 TX2 2, w ∈ wsX2_goThrough := by decide +kernel
  have k12 : Cond.fieldLink RX2 12 "BallBoxes$RingTrial" "ring" "LBallBoxes$Ring;" ∈ wsX2_goThrough := by decide +kernel
  have Lp13 : ∀ (x2 : Int32) (x3 : Int32) (w_t_ring_size : Int32) (K : Int64 → Int64 → Int32 → (Nat → Int64) → Option (Int32 × Int32 × Int64 × Int64 × Int32 × (Nat → Int64))), (∀ (z_t_ring_bits : Int64) (z_t_ring_made : Int64) (z_t_ring_carrierHas : Int32) (z_t_seen : (Nat → Int64)) (H : Heap) (locs : List Loc) (ls : Array Slot), Wd D A s.heap [(q_t, .inr (2, [.ref q_t_ring, .ref q_t_seen])), (q_t_ring, .inr (1, [.int w_t_ring_size, .long z_t_ring_bits, .long z_t_ring_made, .int z_t_ring_carrierHas])), (q_t_seen, .inl (cJ, 64, .inr (.inl z_t_seen)))] H locs → lv_has ls 5 [] → K z_t_ring_bits z_t_ring_made z_t_ring_carrierHas z_t_seen = some (r, o_t_ring_size, o_t_ring_bits, o_t_ring_made, o_t_ring_carrierHas, o_t_seen) → W p l e ({ frames := 3, cells := 0, slots := 0, locals := 72 } : Room) s m ([.ref q_t, .int p1, .int p2, .int p3] : List Value).toArray below meth c H locs 0 0 (MQ below (QcI D [(q_t, .inr (2, [.ref q_t_ring, .ref q_t_seen])), (q_t_ring, .inr (1, [.int o_t_ring_size, .long o_t_ring_bits, .long o_t_ring_made, .int o_t_ring_carrierHas])), (q_t_seen, .inl (cJ, 64, .inr (.inl o_t_seen)))] A r) ([.ref q_t, .int p1, .int p2, .int p3] : List Value).toArray s 0 0 A) (F0 m 64 ls [])) → ∀ (n : Nat) (x4 : Int32) (w_t_ring_bits : Int64) (w_t_ring_made : Int64) (w_t_ring_carrierHas : Int32) (w_t_seen : (Nat → Int64)) (H : Heap) (locs : List Loc) (ls : Array Slot), Wd D A s.heap [(q_t, .inr (2, [.ref q_t_ring, .ref q_t_seen])), (q_t_ring, .inr (1, [.int w_t_ring_size, .long w_t_ring_bits, .long w_t_ring_made, .int w_t_ring_carrierHas])), (q_t_seen, .inl (cJ, 64, .inr (.inl w_t_seen)))] H locs → lv_has ls 5 [(0, .ref q_t), (2, .int x2), (3, .int x3), (4, .int x4)] → L_X2_goThrough_13 N x2 x3 w_t_ring_size K n x4 w_t_ring_bits w_t_ring_made w_t_ring_carrierHas w_t_seen = some (r, o_t_ring_size, o_t_ring_bits, o_t_ring_made, o_t_ring_carrierHas, o_t_seen) → W p l e ({ frames := 3, cells := 0, slots := 0, locals := 72 } : Room) s m ([.ref q_t, .int p1, .int p2, .int p3] : List Value).toArray below meth c H locs 0 0 (MQ below (QcI D [(q_t, .inr (2, [.ref q_t_ring, .ref q_t_seen])), (q_t_ring, .inr (1, [.int o_t_ring_size, .long o_t_ring_bits, .long o_t_ring_made, .int o_t_ring_carrierHas])), (q_t_seen, .inl (cJ, 64, .inr (.inl o_t_seen)))] A r) ([.ref q_t, .int p1, .int p2, .int p3] : List Value).toArray s 0 0 A) (F0 m 13 ls []) := by
    intro x2 x3 w_t_ring_size K hKx n
    induction n with
    | zero =>
      intro x4 w_t_ring_bits w_t_ring_made w_t_ring_carrierHas w_t_seen H locs ls hw hl hf
      rw [L_X2_goThrough_13] at hf
      cases hf
    | succ n ih =>
      intro x4 w_t_ring_bits w_t_ring_made w_t_ring_carrierHas w_t_seen H locs ls hw hl hf
      rw [L_X2_goThrough_13] at hf
      refine lv_iload hx hb dX2_goThrough_13 (lv_at hl 3 rfl) ?_
      refine lv_sipush (v := (20000 : Int32)) hx hb dX2_goThrough_15 (by decide) ?_
      refine lv_icmp_gt (tgt := 64) hx hb dX2_goThrough_18 (by decide) (fun c4 => ?_) (fun c4 => ?_)
      · have hf := (if_pos c4).symm.trans hf
        exact hKx w_t_ring_bits w_t_ring_made w_t_ring_carrierHas w_t_seen _ _ _ hw (lv_sub hl [] rfl) hf
      · have hf := (if_neg c4).symm.trans hf
        refine lv_aload_n hx hb dX2_goThrough_21 rfl (lv_at hl 0 rfl) ?_
        refine g_get (ci := 2) (C := RX2) (T := TX2) (N := 2) S hinX2 hK hw 0 0 k12 dX2_goThrough_22 rfl rfl (by decide) rfl ?_
        refine lv_iload_n hx hb dX2_goThrough_25 rfl (lv_at hl 2 rfl) ?_
        obtain ⟨r5, u6, u7, u8, h9, hf⟩ := bd4_some hf
        refine cl_i (wr := [(q_t, .inr (2, [.ref q_t_ring, .ref q_t_seen])), (q_t_seen, .inl (cJ, 64, .inr (.inl w_t_seen)))]) (ws' := [(q_t, .inr (2, [.ref q_t_ring, .ref q_t_seen])), (q_t_ring, .inr (1, [.int w_t_ring_size, .long u6, .long u7, .int u8])), (q_t_seen, .inl (cJ, 64, .inr (.inl w_t_seen)))]) hA hw [1] [0, 2] [0, 2, 1] rfl rfl rfl (by decide) rfl rfl (va_runV (As := [.int x3]) (rest := []) S (c_X1_turnBy l D cI cZ cJ cO _ q_t_ring N x3 w_t_ring_size w_t_ring_bits w_t_ring_made w_t_ring_carrierHas r5 u6 u7 u8 h9) (cwV 1 hts gX2_goThrough_X1_turnBy rfl rfl rfl (by decide +kernel) ⟨Nat.le_of_ble_eq_true rfl, Nat.le_of_ble_eq_true rfl⟩) (pre_V hK hN hw [1] rfl rfl (C := RX1) (T := TX1) (N := 4) (ci := 1) (q0 := 0) rfl rfl) rfl rfl hl.1 rfl (lv_room (Nat.le_of_ble_eq_true rfl)) dX2_goThrough_26 ⟨Nat.zero_le _, Nat.zero_le _⟩) (fun H locs hw => ?_)
        refine lv_pop hx hb dX2_goThrough_29 rfl ?_
        refine lv_aload_n hx hb dX2_goThrough_30 rfl (lv_at hl 0 rfl) ?_
        refine lv_aload_n hx hb dX2_goThrough_31 rfl (lv_at hl 0 rfl) ?_
        refine g_get (ci := 2) (C := RX2) (T := TX2) (N := 2) S hinX2 hK hw 0 0 k12 dX2_goThrough_32 rfl rfl (by decide) rfl ?_
        refine g_getN (ci := 1) (C := RX1) (T := TX1) (N := 4) S hinX1 hK hN hw 1 1 nw_X2_26 dX2_goThrough_35 rfl rfl (by decide) rfl ?_
        refine lv_l2i (v := u6.toInt32) hx hb dX2_goThrough_38 rfl ?_
        obtain ⟨u10, h11, hf⟩ := bd1_some hf
        refine cl_v (wr := [(q_t_ring, .inr (1, [.int w_t_ring_size, .long u6, .long u7, .int u8]))]) (ws' := [(q_t, .inr (2, [.ref q_t_ring, .ref q_t_seen])), (q_t_ring, .inr (1, [.int w_t_ring_size, .long u6, .long u7, .int u8])), (q_t_seen, .inl (cJ, 64, .inr (.inl u10)))]) hA hw [0, 2] [1] [1, 0, 2] rfl rfl rfl (by decide) rfl rfl (va_runV (As := [.int u6.toInt32]) (rest := []) S (c_X2_see l D cI cZ cJ cO _ q_t q_t_ring q_t_seen N u6.toInt32 w_t_seen u10 h11) (cwV 1 hts gX2_goThrough_X2_see rfl rfl rfl (by decide +kernel) ⟨Nat.le_of_ble_eq_true rfl, Nat.le_of_ble_eq_true rfl⟩) (pre_V hK hN hw [0, 2] rfl rfl (C := RX2) (T := TX2) (N := 2) (ci := 2) (q0 := 0) rfl rfl) rfl rfl hl.1 rfl (lv_room (Nat.le_of_ble_eq_true rfl)) dX2_goThrough_39 ⟨Nat.zero_le _, Nat.zero_le _⟩) (fun H locs hw => ?_)
        refine lv_aload_n hx hb dX2_goThrough_42 rfl (lv_at hl 0 rfl) ?_
        refine g_get (ci := 2) (C := RX2) (T := TX2) (N := 2) S hinX2 hK hw 0 0 k12 dX2_goThrough_43 rfl rfl (by decide) rfl ?_
        refine g_getN (ci := 1) (C := RX1) (T := TX1) (N := 4) S hinX1 hK hN hw 1 1 nw_X2_26 dX2_goThrough_46 rfl rfl (by decide) rfl ?_
        refine lv_iload_n hx hb dX2_goThrough_49 rfl (lv_at hl 1 rfl) ?_
        refine lv_i2l (v := x2.toInt64) hx hb dX2_goThrough_50 rfl ?_
        refine W.lcmp hx hb dX2_goThrough_51 ?_
        refine lv_if_ne (tgt := 58) hx hb dX2_goThrough_52 (by decide) (fun c12 => ?_) (fun c12 => ?_)
        · have hf := (if_neg c12).symm.trans hf
          refine lv_iinc (v := (x4 + (1 : Int32))) (lv' := [(4, .int (x4 + (1 : Int32))), (0, .ref q_t), (2, .int x2), (3, .int x3)]) hx hb dX2_goThrough_58 hl (k := 3) rfl rfl (by decide) rfl (fun ls hl => ?_)
          refine lv_goto (tgt := 13) hx hb dX2_goThrough_61 (by decide) ?_
          exact ih (x4 + (1 : Int32)) u6 u7 u8 u10 _ _ _ hw (lv_sub hl [1, 2, 3, 0] rfl) hf
        · have hf := (if_pos c12).symm.trans hf
          refine lv_iload hx hb dX2_goThrough_55 (lv_at hl 3 rfl) ?_
          obtain ⟨rfl, rfl, rfl, rfl, rfl, rfl⟩ := pr6 (Option.some.inj hf)
          exact rt_i S hr hlk hw dX2_goThrough_57
  unfold f_X2_goThrough at hf
  refine lv_aload_n hx hb dX2_goThrough_0 rfl (lv_at hl 0 rfl) ?_
  refine g_get (ci := 2) (C := RX2) (T := TX2) (N := 2) S hinX2 hK hw 0 0 k12 dX2_goThrough_1 rfl rfl (by decide) rfl ?_
  refine lv_iload_n hx hb dX2_goThrough_4 rfl (lv_at hl 1 rfl) ?_
  refine lv_iload_n hx hb dX2_goThrough_5 rfl (lv_at hl 2 rfl) ?_
  refine lv_i2l (v := p2.toInt64) hx hb dX2_goThrough_6 rfl ?_
  obtain ⟨u1, u2, h3, hf⟩ := bd2_some hf
  refine cl_v (wr := [(q_t, .inr (2, [.ref q_t_ring, .ref q_t_seen])), (q_t_seen, .inl (cJ, 64, .inr (.inl t_seen)))]) (ws' := [(q_t, .inr (2, [.ref q_t_ring, .ref q_t_seen])), (q_t_ring, .inr (1, [.int u1, .long u2, .long t_ring_made, .int t_ring_carrierHas])), (q_t_seen, .inl (cJ, 64, .inr (.inl t_seen)))]) hA hw [1] [0, 2] [0, 2, 1] rfl rfl rfl (by decide) rfl rfl (va_runV (As := [.int p1, .long p2.toInt64]) (rest := []) S (c_X1_become l D cI cZ cJ cO _ q_t_ring N p1 p2.toInt64 t_ring_size t_ring_bits t_ring_made t_ring_carrierHas u1 u2 h3) (cwV 2 hts gX2_goThrough_X1_become rfl rfl rfl (by decide +kernel) ⟨Nat.le_of_ble_eq_true rfl, Nat.le_of_ble_eq_true rfl⟩) (pre_V hK hN hw [1] rfl rfl (C := RX1) (T := TX1) (N := 4) (ci := 1) (q0 := 0) rfl rfl) rfl rfl hl.1 rfl (lv_room (Nat.le_of_ble_eq_true rfl)) dX2_goThrough_7 ⟨Nat.zero_le _, Nat.zero_le _⟩) (fun H locs hw => ?_)
  refine lv_iconst (v := (1 : Int32)) hx hb dX2_goThrough_10 (by decide) ?_
  refine lv_istore (lv' := [(4, .int (1 : Int32)), (0, .ref q_t), (1, .int p1), (2, .int p2), (3, .int p3)]) hx hb dX2_goThrough_11 hl (by decide) rfl (fun ls hl => ?_)
  refine Lp13 p2 p3 u1 _ (fun u13 u14 u15 u16 H locs ls hw hl hf => ?_) N (1 : Int32) u2 t_ring_made t_ring_carrierHas t_seen _ _ _ hw (lv_sub hl [1, 3, 4, 0] rfl) hf
  refine lv_bipush (v := (-5 : Int32)) hx hb dX2_goThrough_64 (by decide) ?_
  obtain ⟨rfl, rfl, rfl, rfl, rfl, rfl⟩ := pr6 (Option.some.inj hf)
  exact rt_i S hr hlk hw dX2_goThrough_66

def f_X2_isSeen (_ : Nat) (p1 : Int32) (t_seen : (Nat → Int64)) : Option (Int32) :=
  (if (64 : Int32) ≤ (ushI p1 (6 : Int32)) then (some (0 : Int32)) else (ck (inb (ushI p1 (6 : Int32)) 64) (if (lg_cmp ((ushL (t_seen (ushI p1 (6 : Int32)).toNatClampNeg) (p1 &&& (63 : Int32))) &&& (1 : Int64)) (0 : Int64)) = (0 : Int32) then (some (0 : Int32)) else (some (1 : Int32)))))

set_option maxHeartbeats 4000000 in
set_option maxRecDepth 100000 in
theorem c_X2_isSeen (l : Launch) (D : va_G) (cI cZ cJ cO : ClassId) (sz : Nat) (q_t q_t_ring q_t_seen : Nat) (N : Nat) (p1 : Int32) (t_seen : (Nat → Int64)) (r : Int32) (hf : f_X2_isSeen N p1 t_seen = some r) : Met l yX2_isSeen wsX2_isSeen ({ frames := 0, cells := 0, slots := 0, locals := 0 }) (PreC D (TY cI cZ cJ cO) [.ref q_t, .int p1] [(q_t, .inr (2, [.ref q_t_ring, .ref q_t_seen])), (q_t_seen, .inl (cJ, 64, .inr (.inl t_seen)))] sz) (QcI D [(q_t, .inr (2, [.ref q_t_ring, .ref q_t_seen])), (q_t_seen, .inl (cJ, 64, .inr (.inl t_seen)))] (va_A [(q_t, .inr (2, [.ref q_t_ring, .ref q_t_seen])), (q_t_seen, .inl (cJ, 64, .inr (.inl t_seen)))] sz) r) 0 0 (va_A [(q_t, .inr (2, [.ref q_t_ring, .ref q_t_seen])), (q_t_seen, .inl (cJ, 64, .inr (.inl t_seen)))] sz) := by
  refine ctr (cc := cX2_isSeen) (maxL := 3) (ret := (some .boolean)) (by decide) rfl (Nat.le_of_ble_eq_true rfl) ?_
  intro p e s m below meth c S hr hlk hnm hK hN hsz hA hw ls hl
  generalize va_A [(q_t, .inr (2, [.ref q_t_ring, .ref q_t_seen])), (q_t_seen, .inl (cJ, 64, .inr (.inl t_seen)))] sz = A at hA hw ⊢
  have S : CallFix p m c cX2_isSeen 3 s ([.ref q_t, .int p1] : List Value).toArray wsX2_isSeen RX2 := S
  have hx := S.1
  have hb := S.2.1
  have hts := S.2.2.2.2
  have hl : lv_has ls 3 [(0, .ref q_t), (1, .int p1)] := hl
  have hinX2 : ∀ w ∈ u_ws RX2 TX2 2, w ∈ wsX2_isSeen := by decide +kernel
  have k18 : Cond.fieldLink RX2 18 "BallBoxes$RingTrial" "seen" "[J" ∈ wsX2_isSeen := by decide +kernel
  unfold f_X2_isSeen at hf
  refine lv_iload_n hx hb dX2_isSeen_0 rfl (lv_at hl 1 rfl) ?_
  refine lv_bipush (v := (6 : Int32)) hx hb dX2_isSeen_1 (by decide) ?_
  refine lv_iushr (v := (ushI p1 (6 : Int32))) hx hb dX2_isSeen_3 rfl ?_
  refine lv_istore_n (lv' := [(2, .int (ushI p1 (6 : Int32))), (0, .ref q_t), (1, .int p1)]) hx hb dX2_isSeen_4 rfl hl (by decide) rfl (fun ls hl => ?_)
  refine lv_iload_n hx hb dX2_isSeen_5 rfl (lv_at hl 0 rfl) ?_
  refine lv_aload_n hx hb dX2_isSeen_6 rfl (lv_at hl 1 rfl) ?_
  refine g_get (ci := 2) (C := RX2) (T := TX2) (N := 2) S hinX2 hK hw 0 1 k18 dX2_isSeen_7 rfl rfl (by decide) rfl ?_
  refine va_alen hx hb hK hw.1 1 2 rfl rfl (v := (64 : Int32)) rfl dX2_isSeen_10 ?_
  refine lv_icmp_ge (tgt := 36) hx hb dX2_isSeen_11 (by decide) (fun c1 => ?_) (fun c1 => ?_)
  · have hf := (if_pos c1).symm.trans hf
    refine lv_iconst (v := (0 : Int32)) hx hb dX2_isSeen_36 (by decide) ?_
    obtain rfl := Option.some.inj hf
    exact rt_z S hr hlk hw dX2_isSeen_37 rfl
  · have hf := (if_neg c1).symm.trans hf
    refine lv_aload_n hx hb dX2_isSeen_14 rfl (lv_at hl 1 rfl) ?_
    refine g_get (ci := 2) (C := RX2) (T := TX2) (N := 2) S hinX2 hK hw 0 1 k18 dX2_isSeen_15 rfl rfl (by decide) rfl ?_
    refine lv_iload_n hx hb dX2_isSeen_18 rfl (lv_at hl 0 rfl) ?_
    obtain ⟨b2, hf⟩ := ck_some hf
    refine g_lald S hK hw 1 2 b2 dX2_isSeen_19 rfl rfl ?_
    refine lv_iload_n hx hb dX2_isSeen_20 rfl (lv_at hl 2 rfl) ?_
    refine lv_bipush (v := (63 : Int32)) hx hb dX2_isSeen_21 (by decide) ?_
    refine lv_iand hx hb dX2_isSeen_23 ?_
    refine lv_lushr (v := (ushL (t_seen (ushI p1 (6 : Int32)).toNatClampNeg) (p1 &&& (63 : Int32)))) hx hb dX2_isSeen_24 rfl ?_
    refine lv_lconst (v := (1 : Int64)) hx hb dX2_isSeen_25 (by decide) ?_
    refine lv_land hx hb dX2_isSeen_26 ?_
    refine lv_lconst (v := (0 : Int64)) hx hb dX2_isSeen_27 (by decide) ?_
    refine W.lcmp hx hb dX2_isSeen_28 ?_
    refine lv_if_eq (tgt := 36) hx hb dX2_isSeen_29 (by decide) (fun c3 => ?_) (fun c3 => ?_)
    · have hf := (if_pos c3).symm.trans hf
      refine lv_iconst (v := (0 : Int32)) hx hb dX2_isSeen_36 (by decide) ?_
      obtain rfl := Option.some.inj hf
      exact rt_z S hr hlk hw dX2_isSeen_37 rfl
    · have hf := (if_neg c3).symm.trans hf
      refine lv_iconst (v := (1 : Int32)) hx hb dX2_isSeen_32 (by decide) ?_
      refine lv_goto (tgt := 37) hx hb dX2_isSeen_33 (by decide) ?_
      obtain rfl := Option.some.inj hf
      exact rt_z S hr hlk hw dX2_isSeen_37 rfl

def L_X2_countWithPeriod_10 (N : Nat) (x1 : Int32) (x2 : Int32) (x3 : Int32) (x4 : Int32) (K : Int32 → Int32 → Int64 → Int64 → Int32 → (Nat → Int64) → Option (Int32 × Int32 × Int64 × Int64 × Int32 × (Nat → Int64))) : Nat → Int32 → Int32 → Int32 → Int64 → Int64 → Int32 → (Nat → Int64) → Option (Int32 × Int32 × Int64 × Int64 × Int32 × (Nat → Int64))
  | 0, _, _, _, _, _, _, _ => none
  | n + 1, x5, x6, w_t_ring_size, w_t_ring_bits, w_t_ring_made, w_t_ring_carrierHas, w_t_seen => (if ((1 : Int32) <<< (x1 &&& 31)) ≤ x6 then (K x5 w_t_ring_size w_t_ring_bits w_t_ring_made w_t_ring_carrierHas w_t_seen) else (bd1 (f_J6_bitCount_0f7a4 N x6) (fun r4 => (if r4 = x2 then (bd1 (f_X2_isSeen N x6 w_t_seen) (fun r7 => (if r7 = (0 : Int32) then (bd6 (f_X2_goThrough N x1 x6 x3 w_t_ring_size w_t_ring_bits w_t_ring_made w_t_ring_carrierHas w_t_seen) (fun r10 u11 u12 u13 u14 u15 => (if r10 = x4 then (L_X2_countWithPeriod_10 N x1 x2 x3 x4 K n (x5 + r10) (x6 + (1 : Int32)) u11 u12 u13 u14 u15) else (L_X2_countWithPeriod_10 N x1 x2 x3 x4 K n x5 (x6 + (1 : Int32)) u11 u12 u13 u14 u15)))) else (L_X2_countWithPeriod_10 N x1 x2 x3 x4 K n x5 (x6 + (1 : Int32)) w_t_ring_size w_t_ring_bits w_t_ring_made w_t_ring_carrierHas w_t_seen)))) else (L_X2_countWithPeriod_10 N x1 x2 x3 x4 K n x5 (x6 + (1 : Int32)) w_t_ring_size w_t_ring_bits w_t_ring_made w_t_ring_carrierHas w_t_seen)))))

def f_X2_countWithPeriod (N : Nat) (p1 : Int32) (p2 : Int32) (p3 : Int32) (p4 : Int32) (t_ring_size : Int32) (t_ring_bits : Int64) (t_ring_made : Int64) (t_ring_carrierHas : Int32) (t_seen : (Nat → Int64)) : Option (Int32 × Int32 × Int64 × Int64 × Int32 × (Nat → Int64)) :=
  (bd1 (f_X2_forget N t_seen) (fun u1 => (L_X2_countWithPeriod_10 N p1 p2 p3 p4 (fun y18 u19 u20 u21 u22 u23 => (some (y18, u19, u20, u21, u22, u23))) N (0 : Int32) (0 : Int32) t_ring_size t_ring_bits t_ring_made t_ring_carrierHas u1)))

set_option maxHeartbeats 4000000 in
set_option maxRecDepth 100000 in
theorem c_X2_countWithPeriod (l : Launch) (D : va_G) (cI cZ cJ cO : ClassId) (sz : Nat) (q_t q_t_ring q_t_seen : Nat) (N : Nat) (p1 : Int32) (p2 : Int32) (p3 : Int32) (p4 : Int32) (t_ring_size : Int32) (t_ring_bits : Int64) (t_ring_made : Int64) (t_ring_carrierHas : Int32) (t_seen : (Nat → Int64)) (r : Int32) (o_t_ring_size : Int32) (o_t_ring_bits : Int64) (o_t_ring_made : Int64) (o_t_ring_carrierHas : Int32) (o_t_seen : (Nat → Int64)) (hf : f_X2_countWithPeriod N p1 p2 p3 p4 t_ring_size t_ring_bits t_ring_made t_ring_carrierHas t_seen = some (r, o_t_ring_size, o_t_ring_bits, o_t_ring_made, o_t_ring_carrierHas, o_t_seen)) : Met l yX2_countWithPeriod wsX2_countWithPeriod ({ frames := 4, cells := 0, slots := 0, locals := 96 }) (PreC D (TY cI cZ cJ cO) [.ref q_t, .int p1, .int p2, .int p3, .int p4] [(q_t, .inr (2, [.ref q_t_ring, .ref q_t_seen])), (q_t_ring, .inr (1, [.int t_ring_size, .long t_ring_bits, .long t_ring_made, .int t_ring_carrierHas])), (q_t_seen, .inl (cJ, 64, .inr (.inl t_seen)))] sz) (QcI D [(q_t, .inr (2, [.ref q_t_ring, .ref q_t_seen])), (q_t_ring, .inr (1, [.int o_t_ring_size, .long o_t_ring_bits, .long o_t_ring_made, .int o_t_ring_carrierHas])), (q_t_seen, .inl (cJ, 64, .inr (.inl o_t_seen)))] (va_A [(q_t, .inr (2, [.ref q_t_ring, .ref q_t_seen])), (q_t_ring, .inr (1, [.int t_ring_size, .long t_ring_bits, .long t_ring_made, .int t_ring_carrierHas])), (q_t_seen, .inl (cJ, 64, .inr (.inl t_seen)))] sz) r) 0 0 (va_A [(q_t, .inr (2, [.ref q_t_ring, .ref q_t_seen])), (q_t_ring, .inr (1, [.int t_ring_size, .long t_ring_bits, .long t_ring_made, .int t_ring_carrierHas])), (q_t_seen, .inl (cJ, 64, .inr (.inl t_seen)))] sz) := by
  refine ctr (cc := cX2_countWithPeriod) (maxL := 8) (ret := (some .int)) (by decide) rfl (Nat.le_of_ble_eq_true rfl) ?_
  intro p e s m below meth c S hr hlk hnm hK hN hsz hA hw ls hl
  generalize va_A [(q_t, .inr (2, [.ref q_t_ring, .ref q_t_seen])), (q_t_ring, .inr (1, [.int t_ring_size, .long t_ring_bits, .long t_ring_made, .int t_ring_carrierHas])), (q_t_seen, .inl (cJ, 64, .inr (.inl t_seen)))] sz = A at hA hw ⊢
  have S : CallFix p m c cX2_countWithPeriod 8 s ([.ref q_t, .int p1, .int p2, .int p3, .int p4] : List Value).toArray wsX2_countWithPeriod RX2 := S
  have hx := S.1
  have hb := S.2.1
  have hts := S.2.2.2.2
  have hl : lv_has ls 8 [(0, .ref q_t), (1, .int p1), (2, .int p2), (3, .int p3), (4, .int p4)] := hl
  have Lp10 : ∀ (x1 : Int32) (x2 : Int32) (x3 : Int32) (x4 : Int32) (K : Int32 → Int32 → Int64 → Int64 → Int32 → (Nat → Int64) → Option (Int32 × Int32 × Int64 × Int64 × Int32 × (Nat → Int64))), (∀ (z5 : Int32) (z_t_ring_size : Int32) (z_t_ring_bits : Int64) (z_t_ring_made : Int64) (z_t_ring_carrierHas : Int32) (z_t_seen : (Nat → Int64)) (H : Heap) (locs : List Loc) (ls : Array Slot), Wd D A s.heap [(q_t, .inr (2, [.ref q_t_ring, .ref q_t_seen])), (q_t_ring, .inr (1, [.int z_t_ring_size, .long z_t_ring_bits, .long z_t_ring_made, .int z_t_ring_carrierHas])), (q_t_seen, .inl (cJ, 64, .inr (.inl z_t_seen)))] H locs → lv_has ls 8 [(5, .int z5)] → K z5 z_t_ring_size z_t_ring_bits z_t_ring_made z_t_ring_carrierHas z_t_seen = some (r, o_t_ring_size, o_t_ring_bits, o_t_ring_made, o_t_ring_carrierHas, o_t_seen) → W p l e ({ frames := 4, cells := 0, slots := 0, locals := 96 } : Room) s m ([.ref q_t, .int p1, .int p2, .int p3, .int p4] : List Value).toArray below meth c H locs 0 0 (MQ below (QcI D [(q_t, .inr (2, [.ref q_t_ring, .ref q_t_seen])), (q_t_ring, .inr (1, [.int o_t_ring_size, .long o_t_ring_bits, .long o_t_ring_made, .int o_t_ring_carrierHas])), (q_t_seen, .inl (cJ, 64, .inr (.inl o_t_seen)))] A r) ([.ref q_t, .int p1, .int p2, .int p3, .int p4] : List Value).toArray s 0 0 A) (F0 m 66 ls [])) → ∀ (n : Nat) (x5 : Int32) (x6 : Int32) (w_t_ring_size : Int32) (w_t_ring_bits : Int64) (w_t_ring_made : Int64) (w_t_ring_carrierHas : Int32) (w_t_seen : (Nat → Int64)) (H : Heap) (locs : List Loc) (ls : Array Slot), Wd D A s.heap [(q_t, .inr (2, [.ref q_t_ring, .ref q_t_seen])), (q_t_ring, .inr (1, [.int w_t_ring_size, .long w_t_ring_bits, .long w_t_ring_made, .int w_t_ring_carrierHas])), (q_t_seen, .inl (cJ, 64, .inr (.inl w_t_seen)))] H locs → lv_has ls 8 [(0, .ref q_t), (1, .int x1), (2, .int x2), (3, .int x3), (4, .int x4), (5, .int x5), (6, .int x6)] → L_X2_countWithPeriod_10 N x1 x2 x3 x4 K n x5 x6 w_t_ring_size w_t_ring_bits w_t_ring_made w_t_ring_carrierHas w_t_seen = some (r, o_t_ring_size, o_t_ring_bits, o_t_ring_made, o_t_ring_carrierHas, o_t_seen) → W p l e ({ frames := 4, cells := 0, slots := 0, locals := 96 } : Room) s m ([.ref q_t, .int p1, .int p2, .int p3, .int p4] : List Value).toArray below meth c H locs 0 0 (MQ below (QcI D [(q_t, .inr (2, [.ref q_t_ring, .ref q_t_seen])), (q_t_ring, .inr (1, [.int o_t_ring_size, .long o_t_ring_bits, .long o_t_ring_made, .int o_t_ring_carrierHas])), (q_t_seen, .inl (cJ, 64, .inr (.inl o_t_seen)))] A r) ([.ref q_t, .int p1, .int p2, .int p3, .int p4] : List Value).toArray s 0 0 A) (F0 m 10 ls []) := by
    intro x1 x2 x3 x4 K hKx n
    induction n with
    | zero =>
      intro x5 x6 w_t_ring_size w_t_ring_bits w_t_ring_made w_t_ring_carrierHas w_t_seen H locs ls hw hl hf
      rw [L_X2_countWithPeriod_10] at hf
      cases hf
    | succ n ih =>
      intro x5 x6 w_t_ring_size w_t_ring_bits w_t_ring_made w_t_ring_carrierHas w_t_seen H locs ls hw hl hf
      rw [L_X2_countWithPeriod_10] at hf
      refine lv_iload hx hb dX2_countWithPeriod_10 (lv_at hl 6 rfl) ?_
      refine lv_iconst (v := (1 : Int32)) hx hb dX2_countWithPeriod_12 (by decide) ?_
      refine lv_iload_n hx hb dX2_countWithPeriod_13 rfl (lv_at hl 1 rfl) ?_
      refine lv_ishl hx hb dX2_countWithPeriod_14 ?_
      refine lv_icmp_ge (tgt := 66) hx hb dX2_countWithPeriod_15 (by decide) (fun c3 => ?_) (fun c3 => ?_)
      · have hf := (if_pos c3).symm.trans hf
        exact hKx x5 w_t_ring_size w_t_ring_bits w_t_ring_made w_t_ring_carrierHas w_t_seen _ _ _ hw (lv_sub hl [5] rfl) hf
      · have hf := (if_neg c3).symm.trans hf
        refine lv_iload hx hb dX2_countWithPeriod_18 (lv_at hl 6 rfl) ?_
        obtain ⟨r4, h5, hf⟩ := bd1_some hf
        refine cl_i (wr := [(q_t, .inr (2, [.ref q_t_ring, .ref q_t_seen])), (q_t_ring, .inr (1, [.int w_t_ring_size, .long w_t_ring_bits, .long w_t_ring_made, .int w_t_ring_carrierHas])), (q_t_seen, .inl (cJ, 64, .inr (.inl w_t_seen)))]) (ws' := [(q_t, .inr (2, [.ref q_t_ring, .ref q_t_seen])), (q_t_ring, .inr (1, [.int w_t_ring_size, .long w_t_ring_bits, .long w_t_ring_made, .int w_t_ring_carrierHas])), (q_t_seen, .inl (cJ, 64, .inr (.inl w_t_seen)))]) hA hw [] [0, 1, 2] [0, 1, 2] rfl rfl rfl (by decide) rfl rfl (va_runS (As := [.int x6]) (rest := []) S (c_J6_bitCount_0f7a4 l D cI cZ cJ cO _ N x6 r4 h5) (va_cwS 1 hts gX2_countWithPeriod_J6_bitCount_0f7a4 rfl rfl rfl (by decide +kernel) ⟨Nat.le_of_ble_eq_true rfl, Nat.le_of_ble_eq_true rfl⟩) (pre_S hK hN hw [] rfl rfl) rfl rfl hl.1 rfl (lv_room (Nat.le_of_ble_eq_true rfl)) dX2_countWithPeriod_20 ⟨Nat.zero_le _, Nat.zero_le _⟩) (fun H locs hw => ?_)
        refine lv_iload_n hx hb dX2_countWithPeriod_23 rfl (lv_at hl 2 rfl) ?_
        refine lv_icmp_ne (tgt := 60) hx hb dX2_countWithPeriod_24 (by decide) (fun c6 => ?_) (fun c6 => ?_)
        · have hf := (if_neg c6).symm.trans hf
          refine lv_iinc (v := (x6 + (1 : Int32))) (lv' := [(6, .int (x6 + (1 : Int32))), (0, .ref q_t), (1, .int x1), (2, .int x2), (3, .int x3), (4, .int x4), (5, .int x5)]) hx hb dX2_countWithPeriod_60 hl (k := 6) rfl rfl (by decide) rfl (fun ls hl => ?_)
          refine lv_goto (tgt := 10) hx hb dX2_countWithPeriod_63 (by decide) ?_
          exact ih x5 (x6 + (1 : Int32)) w_t_ring_size w_t_ring_bits w_t_ring_made w_t_ring_carrierHas w_t_seen _ _ _ hw (lv_sub hl [1, 2, 3, 4, 5, 6, 0] rfl) hf
        · have hf := (if_pos c6).symm.trans hf
          refine lv_aload_n hx hb dX2_countWithPeriod_27 rfl (lv_at hl 0 rfl) ?_
          refine lv_iload hx hb dX2_countWithPeriod_28 (lv_at hl 6 rfl) ?_
          obtain ⟨r7, h8, hf⟩ := bd1_some hf
          refine cl_i (wr := [(q_t_ring, .inr (1, [.int w_t_ring_size, .long w_t_ring_bits, .long w_t_ring_made, .int w_t_ring_carrierHas]))]) (ws' := [(q_t, .inr (2, [.ref q_t_ring, .ref q_t_seen])), (q_t_ring, .inr (1, [.int w_t_ring_size, .long w_t_ring_bits, .long w_t_ring_made, .int w_t_ring_carrierHas])), (q_t_seen, .inl (cJ, 64, .inr (.inl w_t_seen)))]) hA hw [0, 2] [1] [1, 0, 2] rfl rfl rfl (by decide) rfl rfl (va_runV (As := [.int x6]) (rest := []) S (c_X2_isSeen l D cI cZ cJ cO _ q_t q_t_ring q_t_seen N x6 w_t_seen r7 h8) (cwV 1 hts gX2_countWithPeriod_X2_isSeen rfl rfl rfl (by decide +kernel) ⟨Nat.le_of_ble_eq_true rfl, Nat.le_of_ble_eq_true rfl⟩) (pre_V hK hN hw [0, 2] rfl rfl (C := RX2) (T := TX2) (N := 2) (ci := 2) (q0 := 0) rfl rfl) rfl rfl hl.1 rfl (lv_room (Nat.le_of_ble_eq_true rfl)) dX2_countWithPeriod_30 ⟨Nat.zero_le _, Nat.zero_le _⟩) (fun H locs hw => ?_)
          refine lv_if_ne (tgt := 60) hx hb dX2_countWithPeriod_33 (by decide) (fun c9 => ?_) (fun c9 => ?_)
          · have hf := (if_neg c9).symm.trans hf
            refine lv_iinc (v := (x6 + (1 : Int32))) (lv' := [(6, .int (x6 + (1 : Int32))), (0, .ref q_t), (1, .int x1), (2, .int x2), (3, .int x3), (4, .int x4), (5, .int x5)]) hx hb dX2_countWithPeriod_60 hl (k := 6) rfl rfl (by decide) rfl (fun ls hl => ?_)
            refine lv_goto (tgt := 10) hx hb dX2_countWithPeriod_63 (by decide) ?_
            exact ih x5 (x6 + (1 : Int32)) w_t_ring_size w_t_ring_bits w_t_ring_made w_t_ring_carrierHas w_t_seen _ _ _ hw (lv_sub hl [1, 2, 3, 4, 5, 6, 0] rfl) hf
          · have hf := (if_pos c9).symm.trans hf
            refine lv_aload_n hx hb dX2_countWithPeriod_36 rfl (lv_at hl 0 rfl) ?_
            refine lv_iload_n hx hb dX2_countWithPeriod_37 rfl (lv_at hl 1 rfl) ?_
            refine lv_iload hx hb dX2_countWithPeriod_38 (lv_at hl 6 rfl) ?_
            refine lv_iload_n hx hb dX2_countWithPeriod_40 rfl (lv_at hl 3 rfl) ?_
            obtain ⟨r10, u11, u12, u13, u14, u15, h16, hf⟩ := bd6_some hf
            refine cl_i (wr := []) (ws' := [(q_t, .inr (2, [.ref q_t_ring, .ref q_t_seen])), (q_t_ring, .inr (1, [.int u11, .long u12, .long u13, .int u14])), (q_t_seen, .inl (cJ, 64, .inr (.inl u15)))]) hA hw [0, 1, 2] [] [0, 1, 2] rfl rfl rfl (by decide) rfl rfl (va_runV (As := [.int x1, .int x6, .int x3]) (rest := []) S (c_X2_goThrough l D cI cZ cJ cO _ q_t q_t_ring q_t_seen N x1 x6 x3 w_t_ring_size w_t_ring_bits w_t_ring_made w_t_ring_carrierHas w_t_seen r10 u11 u12 u13 u14 u15 h16) (cwV 3 hts gX2_countWithPeriod_X2_goThrough rfl rfl rfl (by decide +kernel) ⟨Nat.le_of_ble_eq_true rfl, Nat.le_of_ble_eq_true rfl⟩) (pre_V hK hN hw [0, 1, 2] rfl rfl (C := RX2) (T := TX2) (N := 2) (ci := 2) (q0 := 0) rfl rfl) rfl rfl hl.1 rfl (lv_room (Nat.le_of_ble_eq_true rfl)) dX2_countWithPeriod_41 ⟨Nat.zero_le _, Nat.zero_le _⟩) (fun H locs hw => ?_)
            refine lv_istore (lv' := [(7, .int r10), (0, .ref q_t), (1, .int x1), (2, .int x2), (3, .int x3), (4, .int x4), (5, .int x5), (6, .int x6)]) hx hb dX2_countWithPeriod_44 hl (by decide) rfl (fun ls hl => ?_)
            refine lv_iload hx hb dX2_countWithPeriod_46 (lv_at hl 0 rfl) ?_
            refine lv_iload hx hb dX2_countWithPeriod_48 (lv_at hl 5 rfl) ?_
            refine lv_icmp_ne (tgt := 60) hx hb dX2_countWithPeriod_50 (by decide) (fun c17 => ?_) (fun c17 => ?_)
            · have hf := (if_neg c17).symm.trans hf
              refine lv_iinc (v := (x6 + (1 : Int32))) (lv' := [(6, .int (x6 + (1 : Int32))), (7, .int r10), (0, .ref q_t), (1, .int x1), (2, .int x2), (3, .int x3), (4, .int x4), (5, .int x5)]) hx hb dX2_countWithPeriod_60 hl (k := 7) rfl rfl (by decide) rfl (fun ls hl => ?_)
              refine lv_goto (tgt := 10) hx hb dX2_countWithPeriod_63 (by decide) ?_
              exact ih x5 (x6 + (1 : Int32)) u11 u12 u13 u14 u15 _ _ _ hw (lv_sub hl [2, 3, 4, 5, 6, 7, 0] rfl) hf
            · have hf := (if_pos c17).symm.trans hf
              refine lv_iload hx hb dX2_countWithPeriod_53 (lv_at hl 6 rfl) ?_
              refine lv_iload hx hb dX2_countWithPeriod_55 (lv_at hl 0 rfl) ?_
              refine lv_iadd hx hb dX2_countWithPeriod_57 ?_
              refine lv_istore (lv' := [(5, .int (x5 + r10)), (7, .int r10), (0, .ref q_t), (1, .int x1), (2, .int x2), (3, .int x3), (4, .int x4), (6, .int x6)]) hx hb dX2_countWithPeriod_58 hl (by decide) rfl (fun ls hl => ?_)
              refine lv_iinc (v := (x6 + (1 : Int32))) (lv' := [(6, .int (x6 + (1 : Int32))), (5, .int (x5 + r10)), (7, .int r10), (0, .ref q_t), (1, .int x1), (2, .int x2), (3, .int x3), (4, .int x4)]) hx hb dX2_countWithPeriod_60 hl (k := 7) rfl rfl (by decide) rfl (fun ls hl => ?_)
              refine lv_goto (tgt := 10) hx hb dX2_countWithPeriod_63 (by decide) ?_
              exact ih (x5 + r10) (x6 + (1 : Int32)) u11 u12 u13 u14 u15 _ _ _ hw (lv_sub hl [3, 4, 5, 6, 7, 1, 0] rfl) hf
  unfold f_X2_countWithPeriod at hf
  refine lv_aload_n hx hb dX2_countWithPeriod_0 rfl (lv_at hl 0 rfl) ?_
  obtain ⟨u1, h2, hf⟩ := bd1_some hf
  refine cl_v (wr := [(q_t_ring, .inr (1, [.int t_ring_size, .long t_ring_bits, .long t_ring_made, .int t_ring_carrierHas]))]) (ws' := [(q_t, .inr (2, [.ref q_t_ring, .ref q_t_seen])), (q_t_ring, .inr (1, [.int t_ring_size, .long t_ring_bits, .long t_ring_made, .int t_ring_carrierHas])), (q_t_seen, .inl (cJ, 64, .inr (.inl u1)))]) hA hw [0, 2] [1] [1, 0, 2] rfl rfl rfl (by decide) rfl rfl (va_runV (As := []) (rest := []) S (c_X2_forget l D cI cZ cJ cO _ q_t q_t_ring q_t_seen N t_seen u1 h2) (cwV 0 hts gX2_countWithPeriod_X2_forget rfl rfl rfl (by decide +kernel) ⟨Nat.le_of_ble_eq_true rfl, Nat.le_of_ble_eq_true rfl⟩) (pre_V hK hN hw [0, 2] rfl rfl (C := RX2) (T := TX2) (N := 2) (ci := 2) (q0 := 0) rfl rfl) rfl rfl hl.1 rfl (lv_room (Nat.le_of_ble_eq_true rfl)) dX2_countWithPeriod_1 ⟨Nat.zero_le _, Nat.zero_le _⟩) (fun H locs hw => ?_)
  refine lv_iconst (v := (0 : Int32)) hx hb dX2_countWithPeriod_4 (by decide) ?_
  refine lv_istore (lv' := [(5, .int (0 : Int32)), (0, .ref q_t), (1, .int p1), (2, .int p2), (3, .int p3), (4, .int p4)]) hx hb dX2_countWithPeriod_5 hl (by decide) rfl (fun ls hl => ?_)
  refine lv_iconst (v := (0 : Int32)) hx hb dX2_countWithPeriod_7 (by decide) ?_
  refine lv_istore (lv' := [(6, .int (0 : Int32)), (5, .int (0 : Int32)), (0, .ref q_t), (1, .int p1), (2, .int p2), (3, .int p3), (4, .int p4)]) hx hb dX2_countWithPeriod_8 hl (by decide) rfl (fun ls hl => ?_)
  refine Lp10 p1 p2 p3 p4 _ (fun y18 u19 u20 u21 u22 u23 H locs ls hw hl hf => ?_) N (0 : Int32) (0 : Int32) t_ring_size t_ring_bits t_ring_made t_ring_carrierHas u1 _ _ _ hw (lv_sub hl [2, 3, 4, 5, 6, 1, 0] rfl) hf
  refine lv_iload hx hb dX2_countWithPeriod_66 (lv_at hl 0 rfl) ?_
  obtain ⟨rfl, rfl, rfl, rfl, rfl, rfl⟩ := pr6 (Option.some.inj hf)
  exact rt_i S hr hlk hw dX2_countWithPeriod_68

def f_X3_place (N : Nat) (p1 : Int32) (p2 : Int32) (t_boxes : (Nat → Int32)) : Option ((Nat → Int32)) :=
  (bd1 (f_X6_isBox N p1) (fun r1 => (if r1 = (0 : Int32) then (some t_boxes) else (ck (inb p1 240) (some (upd t_boxes p1.toNatClampNeg p2))))))

set_option maxHeartbeats 4000000 in
set_option maxRecDepth 100000 in
theorem c_X3_place (l : Launch) (D : va_G) (cI cZ cJ cO : ClassId) (sz : Nat) (q_t q_t_boxes q_t_made : Nat) (N : Nat) (p1 : Int32) (p2 : Int32) (t_boxes : (Nat → Int32)) (o_t_boxes : (Nat → Int32)) (hf : f_X3_place N p1 p2 t_boxes = some o_t_boxes) : Met l yX3_place wsX3_place ({ frames := 1, cells := 0, slots := 0, locals := 20 }) (PreC D (TY cI cZ cJ cO) [.ref q_t, .int p1, .int p2] [(q_t, .inr (3, [.ref q_t_boxes, .ref q_t_made])), (q_t_boxes, .inl (cI, 240, .inl t_boxes))] sz) (QcV D [(q_t, .inr (3, [.ref q_t_boxes, .ref q_t_made])), (q_t_boxes, .inl (cI, 240, .inl o_t_boxes))] (va_A [(q_t, .inr (3, [.ref q_t_boxes, .ref q_t_made])), (q_t_boxes, .inl (cI, 240, .inl t_boxes))] sz)) 0 0 (va_A [(q_t, .inr (3, [.ref q_t_boxes, .ref q_t_made])), (q_t_boxes, .inl (cI, 240, .inl t_boxes))] sz) := by
  refine ctr (cc := cX3_place) (maxL := 3) (ret := none) (by decide) rfl (Nat.le_of_ble_eq_true rfl) ?_
  intro p e s m below meth c S hr hlk hnm hK hN hsz hA hw ls hl
  generalize va_A [(q_t, .inr (3, [.ref q_t_boxes, .ref q_t_made])), (q_t_boxes, .inl (cI, 240, .inl t_boxes))] sz = A at hA hw ⊢
  have S : CallFix p m c cX3_place 3 s ([.ref q_t, .int p1, .int p2] : List Value).toArray wsX3_place RX3 := S
  have hx := S.1
  have hb := S.2.1
  have hts := S.2.2.2.2
  have hl : lv_has ls 3 [(0, .ref q_t), (1, .int p1), (2, .int p2)] := hl
  have hinX3 : ∀ w ∈ u_ws RX3 TX3 2, w ∈ wsX3_place := by decide +kernel
  have k9 : Cond.fieldLink RX3 9 "BallBoxes$Row" "boxes" "[I" ∈ wsX3_place := by decide +kernel
  unfold f_X3_place at hf
  refine lv_iload_n hx hb dX3_place_0 rfl (lv_at hl 1 rfl) ?_
  obtain ⟨r1, h2, hf⟩ := bd1_some hf
  refine cl_i (wr := [(q_t, .inr (3, [.ref q_t_boxes, .ref q_t_made])), (q_t_boxes, .inl (cI, 240, .inl t_boxes))]) (ws' := [(q_t, .inr (3, [.ref q_t_boxes, .ref q_t_made])), (q_t_boxes, .inl (cI, 240, .inl t_boxes))]) hA hw [] [0, 1] [0, 1] rfl rfl rfl (by decide) rfl rfl (va_runSN (As := [.int p1]) (rest := []) S (c_X6_isBox l D cI cZ cJ cO _ N p1 r1 h2) ⟨va_cnB 1 hts gX3_place_X6_isBox_n18 rfl rfl rfl (hN.1 _ nw_X3_18) (hts (.initialized RX6) (by decide +kernel)) (by decide +kernel) ⟨Nat.le_of_ble_eq_true rfl, Nat.le_of_ble_eq_true rfl⟩, hts (.static yX6_isBox) (by decide +kernel), trivial⟩ (pre_S hK hN hw [] rfl rfl) rfl rfl hl.1 rfl (lv_room (Nat.le_of_ble_eq_true rfl)) dX3_place_1 ⟨Nat.zero_le _, Nat.zero_le _⟩) (fun H locs hw => ?_)
  refine lv_if_eq (tgt := 14) hx hb dX3_place_4 (by decide) (fun c3 => ?_) (fun c3 => ?_)
  · have hf := (if_pos c3).symm.trans hf
    obtain rfl := Option.some.inj hf
    exact rt_v S hr hlk hw dX3_place_14
  · have hf := (if_neg c3).symm.trans hf
    refine lv_aload_n hx hb dX3_place_7 rfl (lv_at hl 0 rfl) ?_
    refine g_get (ci := 3) (C := RX3) (T := TX3) (N := 2) S hinX3 hK hw 0 0 k9 dX3_place_8 rfl rfl (by decide) rfl ?_
    refine lv_iload_n hx hb dX3_place_11 rfl (lv_at hl 1 rfl) ?_
    refine lv_iload_n hx hb dX3_place_12 rfl (lv_at hl 2 rfl) ?_
    obtain ⟨b4, hf⟩ := ck_some hf
    refine g_iast (ws' := [(q_t, .inr (3, [.ref q_t_boxes, .ref q_t_made])), (q_t_boxes, .inl (cI, 240, .inl (upd t_boxes p1.toNatClampNeg p2)))]) S hK hw 1 0 b4 dX3_place_13 rfl rfl rfl (fun H locs hw => ?_)
    obtain rfl := Option.some.inj hf
    exact rt_v S hr hlk hw dX3_place_14

def f_X3_makeBox (N : Nat) (p1 : Int32) (p2 : Int32) (t_made : (Nat → Int32)) : Option ((Nat → Int32)) :=
  (bd1 (f_X6_isBox N p1) (fun r1 => (if r1 = (0 : Int32) then (some t_made) else (ck (inb p1 240) (some (upd t_made p1.toNatClampNeg p2))))))

set_option maxHeartbeats 4000000 in
set_option maxRecDepth 100000 in
theorem c_X3_makeBox (l : Launch) (D : va_G) (cI cZ cJ cO : ClassId) (sz : Nat) (q_t q_t_boxes q_t_made : Nat) (N : Nat) (p1 : Int32) (p2 : Int32) (t_made : (Nat → Int32)) (o_t_made : (Nat → Int32)) (hf : f_X3_makeBox N p1 p2 t_made = some o_t_made) : Met l yX3_makeBox wsX3_makeBox ({ frames := 1, cells := 0, slots := 0, locals := 20 }) (PreC D (TY cI cZ cJ cO) [.ref q_t, .int p1, .int p2] [(q_t, .inr (3, [.ref q_t_boxes, .ref q_t_made])), (q_t_made, .inl (cI, 240, .inl t_made))] sz) (QcV D [(q_t, .inr (3, [.ref q_t_boxes, .ref q_t_made])), (q_t_made, .inl (cI, 240, .inl o_t_made))] (va_A [(q_t, .inr (3, [.ref q_t_boxes, .ref q_t_made])), (q_t_made, .inl (cI, 240, .inl t_made))] sz)) 0 0 (va_A [(q_t, .inr (3, [.ref q_t_boxes, .ref q_t_made])), (q_t_made, .inl (cI, 240, .inl t_made))] sz) := by
  refine ctr (cc := cX3_makeBox) (maxL := 3) (ret := none) (by decide) rfl (Nat.le_of_ble_eq_true rfl) ?_
  intro p e s m below meth c S hr hlk hnm hK hN hsz hA hw ls hl
  generalize va_A [(q_t, .inr (3, [.ref q_t_boxes, .ref q_t_made])), (q_t_made, .inl (cI, 240, .inl t_made))] sz = A at hA hw ⊢
  have S : CallFix p m c cX3_makeBox 3 s ([.ref q_t, .int p1, .int p2] : List Value).toArray wsX3_makeBox RX3 := S
  have hx := S.1
  have hb := S.2.1
  have hts := S.2.2.2.2
  have hl : lv_has ls 3 [(0, .ref q_t), (1, .int p1), (2, .int p2)] := hl
  have hinX3 : ∀ w ∈ u_ws RX3 TX3 2, w ∈ wsX3_makeBox := by decide +kernel
  have k15 : Cond.fieldLink RX3 15 "BallBoxes$Row" "made" "[I" ∈ wsX3_makeBox := by decide +kernel
  unfold f_X3_makeBox at hf
  refine lv_iload_n hx hb dX3_makeBox_0 rfl (lv_at hl 1 rfl) ?_
  obtain ⟨r1, h2, hf⟩ := bd1_some hf
  refine cl_i (wr := [(q_t, .inr (3, [.ref q_t_boxes, .ref q_t_made])), (q_t_made, .inl (cI, 240, .inl t_made))]) (ws' := [(q_t, .inr (3, [.ref q_t_boxes, .ref q_t_made])), (q_t_made, .inl (cI, 240, .inl t_made))]) hA hw [] [0, 1] [0, 1] rfl rfl rfl (by decide) rfl rfl (va_runSN (As := [.int p1]) (rest := []) S (c_X6_isBox l D cI cZ cJ cO _ N p1 r1 h2) ⟨va_cnB 1 hts gX3_makeBox_X6_isBox_n18 rfl rfl rfl (hN.1 _ nw_X3_18) (hts (.initialized RX6) (by decide +kernel)) (by decide +kernel) ⟨Nat.le_of_ble_eq_true rfl, Nat.le_of_ble_eq_true rfl⟩, hts (.static yX6_isBox) (by decide +kernel), trivial⟩ (pre_S hK hN hw [] rfl rfl) rfl rfl hl.1 rfl (lv_room (Nat.le_of_ble_eq_true rfl)) dX3_makeBox_1 ⟨Nat.zero_le _, Nat.zero_le _⟩) (fun H locs hw => ?_)
  refine lv_if_eq (tgt := 14) hx hb dX3_makeBox_4 (by decide) (fun c3 => ?_) (fun c3 => ?_)
  · have hf := (if_pos c3).symm.trans hf
    obtain rfl := Option.some.inj hf
    exact rt_v S hr hlk hw dX3_makeBox_14
  · have hf := (if_neg c3).symm.trans hf
    refine lv_aload_n hx hb dX3_makeBox_7 rfl (lv_at hl 0 rfl) ?_
    refine g_get (ci := 3) (C := RX3) (T := TX3) (N := 2) S hinX3 hK hw 0 1 k15 dX3_makeBox_8 rfl rfl (by decide) rfl ?_
    refine lv_iload_n hx hb dX3_makeBox_11 rfl (lv_at hl 1 rfl) ?_
    refine lv_iload_n hx hb dX3_makeBox_12 rfl (lv_at hl 2 rfl) ?_
    obtain ⟨b4, hf⟩ := ck_some hf
    refine g_iast (ws' := [(q_t, .inr (3, [.ref q_t_boxes, .ref q_t_made])), (q_t_made, .inl (cI, 240, .inl (upd t_made p1.toNatClampNeg p2)))]) S hK hw 1 0 b4 dX3_makeBox_13 rfl rfl rfl (fun H locs hw => ?_)
    obtain rfl := Option.some.inj hf
    exact rt_v S hr hlk hw dX3_makeBox_14

def L_X3_clear_2 (N : Nat) (K : (Nat → Int32) → Option ((Nat → Int32))) : Nat → Int32 → (Nat → Int32) → Option ((Nat → Int32))
  | 0, _, _ => none
  | n + 1, x1, w_t_boxes => (if (240 : Int32) ≤ x1 then (K w_t_boxes) else (ck (inb x1 240) (L_X3_clear_2 N K n (x1 + (1 : Int32)) (upd w_t_boxes x1.toNatClampNeg (0 : Int32)))))

def f_X3_clear (N : Nat)  (t_boxes : (Nat → Int32)) : Option ((Nat → Int32)) :=
  (L_X3_clear_2 N  (fun u3 => (some u3)) N (0 : Int32) t_boxes)

set_option maxHeartbeats 4000000 in
set_option maxRecDepth 100000 in
theorem c_X3_clear (l : Launch) (D : va_G) (cI cZ cJ cO : ClassId) (sz : Nat) (q_t q_t_boxes q_t_made : Nat) (N : Nat)  (t_boxes : (Nat → Int32)) (o_t_boxes : (Nat → Int32)) (hf : f_X3_clear N t_boxes = some o_t_boxes) : Met l yX3_clear wsX3_clear ({ frames := 0, cells := 0, slots := 0, locals := 0 }) (PreC D (TY cI cZ cJ cO) [.ref q_t] [(q_t, .inr (3, [.ref q_t_boxes, .ref q_t_made])), (q_t_boxes, .inl (cI, 240, .inl t_boxes))] sz) (QcV D [(q_t, .inr (3, [.ref q_t_boxes, .ref q_t_made])), (q_t_boxes, .inl (cI, 240, .inl o_t_boxes))] (va_A [(q_t, .inr (3, [.ref q_t_boxes, .ref q_t_made])), (q_t_boxes, .inl (cI, 240, .inl t_boxes))] sz)) 0 0 (va_A [(q_t, .inr (3, [.ref q_t_boxes, .ref q_t_made])), (q_t_boxes, .inl (cI, 240, .inl t_boxes))] sz) := by
  refine ctr (cc := cX3_clear) (maxL := 2) (ret := none) (by decide) rfl (Nat.le_of_ble_eq_true rfl) ?_
  intro p e s m below meth c S hr hlk hnm hK hN hsz hA hw ls hl
  generalize va_A [(q_t, .inr (3, [.ref q_t_boxes, .ref q_t_made])), (q_t_boxes, .inl (cI, 240, .inl t_boxes))] sz = A at hA hw ⊢
  have S : CallFix p m c cX3_clear 2 s ([.ref q_t] : List Value).toArray wsX3_clear RX3 := S
  have hx := S.1
  have hb := S.2.1
  have hts := S.2.2.2.2
  have hl : lv_has ls 2 [(0, .ref q_t)] := hl
  have hinX3 : ∀ w ∈ u_ws RX3 TX3 2, w ∈ wsX3_clear := by decide +kernel
  have k9 : Cond.fieldLink RX3 9 "BallBoxes$Row" "boxes" "[I" ∈ wsX3_clear := by decide +kernel
  have Lp2 : ∀  (K : (Nat → Int32) → Option ((Nat → Int32))), (∀ (z_t_boxes : (Nat → Int32)) (H : Heap) (locs : List Loc) (ls : Array Slot), Wd D A s.heap [(q_t, .inr (3, [.ref q_t_boxes, .ref q_t_made])), (q_t_boxes, .inl (cI, 240, .inl z_t_boxes))] H locs → lv_has ls 2 [] → K z_t_boxes = some o_t_boxes → W p l e ({ frames := 0, cells := 0, slots := 0, locals := 0 } : Room) s m ([.ref q_t] : List Value).toArray below meth c H locs 0 0 (MQ below (QcV D [(q_t, .inr (3, [.ref q_t_boxes, .ref q_t_made])), (q_t_boxes, .inl (cI, 240, .inl o_t_boxes))] A) ([.ref q_t] : List Value).toArray s 0 0 A) (F0 m 22 ls [])) → ∀ (n : Nat) (x1 : Int32) (w_t_boxes : (Nat → Int32)) (H : Heap) (locs : List Loc) (ls : Array Slot), Wd D A s.heap [(q_t, .inr (3, [.ref q_t_boxes, .ref q_t_made])), (q_t_boxes, .inl (cI, 240, .inl w_t_boxes))] H locs → lv_has ls 2 [(0, .ref q_t), (1, .int x1)] → L_X3_clear_2 N K n x1 w_t_boxes = some o_t_boxes → W p l e ({ frames := 0, cells := 0, slots := 0, locals := 0 } : Room) s m ([.ref q_t] : List Value).toArray below meth c H locs 0 0 (MQ below (QcV D [(q_t, .inr (3, [.ref q_t_boxes, .ref q_t_made])), (q_t_boxes, .inl (cI, 240, .inl o_t_boxes))] A) ([.ref q_t] : List Value).toArray s 0 0 A) (F0 m 2 ls []) := by
    intro  K hKx n
    induction n with
    | zero =>
      intro x1 w_t_boxes H locs ls hw hl hf
      rw [L_X3_clear_2] at hf
      cases hf
    | succ n ih =>
      intro x1 w_t_boxes H locs ls hw hl hf
      rw [L_X3_clear_2] at hf
      refine lv_iload_n hx hb dX3_clear_2 rfl (lv_at hl 1 rfl) ?_
      refine lv_sipush (v := (240 : Int32)) hx hb dX3_clear_3 (by decide) ?_
      refine lv_icmp_ge (tgt := 22) hx hb dX3_clear_6 (by decide) (fun c1 => ?_) (fun c1 => ?_)
      · have hf := (if_pos c1).symm.trans hf
        exact hKx w_t_boxes _ _ _ hw (lv_sub hl [] rfl) hf
      · have hf := (if_neg c1).symm.trans hf
        refine lv_aload_n hx hb dX3_clear_9 rfl (lv_at hl 0 rfl) ?_
        refine g_get (ci := 3) (C := RX3) (T := TX3) (N := 2) S hinX3 hK hw 0 0 k9 dX3_clear_10 rfl rfl (by decide) rfl ?_
        refine lv_iload_n hx hb dX3_clear_13 rfl (lv_at hl 1 rfl) ?_
        refine lv_iconst (v := (0 : Int32)) hx hb dX3_clear_14 (by decide) ?_
        obtain ⟨b2, hf⟩ := ck_some hf
        refine g_iast (ws' := [(q_t, .inr (3, [.ref q_t_boxes, .ref q_t_made])), (q_t_boxes, .inl (cI, 240, .inl (upd w_t_boxes x1.toNatClampNeg (0 : Int32))))]) S hK hw 1 0 b2 dX3_clear_15 rfl rfl rfl (fun H locs hw => ?_)
        refine lv_iinc (v := (x1 + (1 : Int32))) (lv' := [(1, .int (x1 + (1 : Int32))), (0, .ref q_t)]) hx hb dX3_clear_16 hl (k := 1) rfl rfl (by decide) rfl (fun ls hl => ?_)
        refine lv_goto (tgt := 2) hx hb dX3_clear_19 (by decide) ?_
        exact ih (x1 + (1 : Int32)) (upd w_t_boxes x1.toNatClampNeg (0 : Int32)) _ _ _ hw (lv_sub hl [1, 0] rfl) hf
  unfold f_X3_clear at hf
  refine lv_iconst (v := (0 : Int32)) hx hb dX3_clear_0 (by decide) ?_
  refine lv_istore_n (lv' := [(1, .int (0 : Int32)), (0, .ref q_t)]) hx hb dX3_clear_1 rfl hl (by decide) rfl (fun ls hl => ?_)
  refine Lp2  _ (fun u3 H locs ls hw hl hf => ?_) N (0 : Int32) t_boxes _ _ _ hw (lv_sub hl [1, 0] rfl) hf
  obtain rfl := Option.some.inj hf
  exact rt_v S hr hlk hw dX3_clear_22

def L_X3_balls_4 (N : Nat) (t_boxes : (Nat → Int32)) (K : Int32 → Option (Int32)) : Nat → Int32 → Int32 → Option (Int32)
  | 0, _, _ => none
  | n + 1, x1, x2 => (if (240 : Int32) ≤ x2 then (K x1) else (ck (inb x2 240) (L_X3_balls_4 N t_boxes K n (x1 + (t_boxes x2.toNatClampNeg)) (x2 + (1 : Int32)))))

def f_X3_balls (N : Nat)  (t_boxes : (Nat → Int32)) : Option (Int32) :=
  (L_X3_balls_4 N t_boxes (fun y3 => (some y3)) N (0 : Int32) (0 : Int32))

set_option maxHeartbeats 4000000 in
set_option maxRecDepth 100000 in
theorem c_X3_balls (l : Launch) (D : va_G) (cI cZ cJ cO : ClassId) (sz : Nat) (q_t q_t_boxes q_t_made : Nat) (N : Nat)  (t_boxes : (Nat → Int32)) (r : Int32) (hf : f_X3_balls N t_boxes = some r) : Met l yX3_balls wsX3_balls ({ frames := 0, cells := 0, slots := 0, locals := 0 }) (PreC D (TY cI cZ cJ cO) [.ref q_t] [(q_t, .inr (3, [.ref q_t_boxes, .ref q_t_made])), (q_t_boxes, .inl (cI, 240, .inl t_boxes))] sz) (QcI D [(q_t, .inr (3, [.ref q_t_boxes, .ref q_t_made])), (q_t_boxes, .inl (cI, 240, .inl t_boxes))] (va_A [(q_t, .inr (3, [.ref q_t_boxes, .ref q_t_made])), (q_t_boxes, .inl (cI, 240, .inl t_boxes))] sz) r) 0 0 (va_A [(q_t, .inr (3, [.ref q_t_boxes, .ref q_t_made])), (q_t_boxes, .inl (cI, 240, .inl t_boxes))] sz) := by
  refine ctr (cc := cX3_balls) (maxL := 3) (ret := (some .int)) (by decide) rfl (Nat.le_of_ble_eq_true rfl) ?_
  intro p e s m below meth c S hr hlk hnm hK hN hsz hA hw ls hl
  generalize va_A [(q_t, .inr (3, [.ref q_t_boxes, .ref q_t_made])), (q_t_boxes, .inl (cI, 240, .inl t_boxes))] sz = A at hA hw ⊢
  have S : CallFix p m c cX3_balls 3 s ([.ref q_t] : List Value).toArray wsX3_balls RX3 := S
  have hx := S.1
  have hb := S.2.1
  have hts := S.2.2.2.2
  have hl : lv_has ls 3 [(0, .ref q_t)] := hl
  have hinX3 : ∀ w ∈ u_ws RX3 TX3 2, w ∈ wsX3_balls := by decide +kernel
  have k9 : Cond.fieldLink RX3 9 "BallBoxes$Row" "boxes" "[I" ∈ wsX3_balls := by decide +kernel
  have Lp4 : ∀  (K : Int32 → Option (Int32)), (∀ (z1 : Int32) (H : Heap) (locs : List Loc) (ls : Array Slot), Wd D A s.heap [(q_t, .inr (3, [.ref q_t_boxes, .ref q_t_made])), (q_t_boxes, .inl (cI, 240, .inl t_boxes))] H locs → lv_has ls 3 [(1, .int z1)] → K z1 = some r → W p l e ({ frames := 0, cells := 0, slots := 0, locals := 0 } : Room) s m ([.ref q_t] : List Value).toArray below meth c H locs 0 0 (MQ below (QcI D [(q_t, .inr (3, [.ref q_t_boxes, .ref q_t_made])), (q_t_boxes, .inl (cI, 240, .inl t_boxes))] A r) ([.ref q_t] : List Value).toArray s 0 0 A) (F0 m 26 ls [])) → ∀ (n : Nat) (x1 : Int32) (x2 : Int32) (H : Heap) (locs : List Loc) (ls : Array Slot), Wd D A s.heap [(q_t, .inr (3, [.ref q_t_boxes, .ref q_t_made])), (q_t_boxes, .inl (cI, 240, .inl t_boxes))] H locs → lv_has ls 3 [(0, .ref q_t), (1, .int x1), (2, .int x2)] → L_X3_balls_4 N t_boxes K n x1 x2 = some r → W p l e ({ frames := 0, cells := 0, slots := 0, locals := 0 } : Room) s m ([.ref q_t] : List Value).toArray below meth c H locs 0 0 (MQ below (QcI D [(q_t, .inr (3, [.ref q_t_boxes, .ref q_t_made])), (q_t_boxes, .inl (cI, 240, .inl t_boxes))] A r) ([.ref q_t] : List Value).toArray s 0 0 A) (F0 m 4 ls []) := by
    intro  K hKx n
    induction n with
    | zero =>
      intro x1 x2 H locs ls hw hl hf
      rw [L_X3_balls_4] at hf
      cases hf
    | succ n ih =>
      intro x1 x2 H locs ls hw hl hf
      rw [L_X3_balls_4] at hf
      refine lv_iload_n hx hb dX3_balls_4 rfl (lv_at hl 2 rfl) ?_
      refine lv_sipush (v := (240 : Int32)) hx hb dX3_balls_5 (by decide) ?_
      refine lv_icmp_ge (tgt := 26) hx hb dX3_balls_8 (by decide) (fun c1 => ?_) (fun c1 => ?_)
      · have hf := (if_pos c1).symm.trans hf
        exact hKx x1 _ _ _ hw (lv_sub hl [1] rfl) hf
      · have hf := (if_neg c1).symm.trans hf
        refine lv_iload_n hx hb dX3_balls_11 rfl (lv_at hl 1 rfl) ?_
        refine lv_aload_n hx hb dX3_balls_12 rfl (lv_at hl 0 rfl) ?_
        refine g_get (ci := 3) (C := RX3) (T := TX3) (N := 2) S hinX3 hK hw 0 0 k9 dX3_balls_13 rfl rfl (by decide) rfl ?_
        refine lv_iload_n hx hb dX3_balls_16 rfl (lv_at hl 2 rfl) ?_
        obtain ⟨b2, hf⟩ := ck_some hf
        refine g_iald S hK hw 1 0 b2 dX3_balls_17 rfl rfl ?_
        refine lv_iadd hx hb dX3_balls_18 ?_
        refine lv_istore_n (lv' := [(1, .int (x1 + (t_boxes x2.toNatClampNeg))), (0, .ref q_t), (2, .int x2)]) hx hb dX3_balls_19 rfl hl (by decide) rfl (fun ls hl => ?_)
        refine lv_iinc (v := (x2 + (1 : Int32))) (lv' := [(2, .int (x2 + (1 : Int32))), (1, .int (x1 + (t_boxes x2.toNatClampNeg))), (0, .ref q_t)]) hx hb dX3_balls_20 hl (k := 2) rfl rfl (by decide) rfl (fun ls hl => ?_)
        refine lv_goto (tgt := 4) hx hb dX3_balls_23 (by decide) ?_
        exact ih (x1 + (t_boxes x2.toNatClampNeg)) (x2 + (1 : Int32)) _ _ _ hw (lv_sub hl [2, 1, 0] rfl) hf
  unfold f_X3_balls at hf
  refine lv_iconst (v := (0 : Int32)) hx hb dX3_balls_0 (by decide) ?_
  refine lv_istore_n (lv' := [(1, .int (0 : Int32)), (0, .ref q_t)]) hx hb dX3_balls_1 rfl hl (by decide) rfl (fun ls hl => ?_)
  refine lv_iconst (v := (0 : Int32)) hx hb dX3_balls_2 (by decide) ?_
  refine lv_istore_n (lv' := [(2, .int (0 : Int32)), (1, .int (0 : Int32)), (0, .ref q_t)]) hx hb dX3_balls_3 rfl hl (by decide) rfl (fun ls hl => ?_)
  refine Lp4  _ (fun y3 H locs ls hw hl hf => ?_) N (0 : Int32) (0 : Int32) _ _ _ hw (lv_sub hl [2, 1, 0] rfl) hf
  refine lv_iload_n hx hb dX3_balls_26 rfl (lv_at hl 0 rfl) ?_
  obtain rfl := Option.some.inj hf
  exact rt_i S hr hlk hw dX3_balls_27

def L_X3_firstBall_2 (N : Nat) (t_boxes : (Nat → Int32)) (K : Unit → Option (Int32)) : Nat → Int32 → Option (Int32)
  | 0, _ => none
  | n + 1, x1 => (if (240 : Int32) ≤ x1 then (K ()) else (ck (inb x1 240) (if (t_boxes x1.toNatClampNeg) = (0 : Int32) then (L_X3_firstBall_2 N t_boxes K n (x1 + (1 : Int32))) else (some x1))))

def f_X3_firstBall (N : Nat)  (t_boxes : (Nat → Int32)) : Option (Int32) :=
  (L_X3_firstBall_2 N t_boxes (fun _ => (some (-1 : Int32))) N (0 : Int32))

set_option maxHeartbeats 4000000 in
set_option maxRecDepth 100000 in
theorem c_X3_firstBall (l : Launch) (D : va_G) (cI cZ cJ cO : ClassId) (sz : Nat) (q_t q_t_boxes q_t_made : Nat) (N : Nat)  (t_boxes : (Nat → Int32)) (r : Int32) (hf : f_X3_firstBall N t_boxes = some r) : Met l yX3_firstBall wsX3_firstBall ({ frames := 0, cells := 0, slots := 0, locals := 0 }) (PreC D (TY cI cZ cJ cO) [.ref q_t] [(q_t, .inr (3, [.ref q_t_boxes, .ref q_t_made])), (q_t_boxes, .inl (cI, 240, .inl t_boxes))] sz) (QcI D [(q_t, .inr (3, [.ref q_t_boxes, .ref q_t_made])), (q_t_boxes, .inl (cI, 240, .inl t_boxes))] (va_A [(q_t, .inr (3, [.ref q_t_boxes, .ref q_t_made])), (q_t_boxes, .inl (cI, 240, .inl t_boxes))] sz) r) 0 0 (va_A [(q_t, .inr (3, [.ref q_t_boxes, .ref q_t_made])), (q_t_boxes, .inl (cI, 240, .inl t_boxes))] sz) := by
  refine ctr (cc := cX3_firstBall) (maxL := 2) (ret := (some .int)) (by decide) rfl (Nat.le_of_ble_eq_true rfl) ?_
  intro p e s m below meth c S hr hlk hnm hK hN hsz hA hw ls hl
  generalize va_A [(q_t, .inr (3, [.ref q_t_boxes, .ref q_t_made])), (q_t_boxes, .inl (cI, 240, .inl t_boxes))] sz = A at hA hw ⊢
  have S : CallFix p m c cX3_firstBall 2 s ([.ref q_t] : List Value).toArray wsX3_firstBall RX3 := S
  have hx := S.1
  have hb := S.2.1
  have hts := S.2.2.2.2
  have hl : lv_has ls 2 [(0, .ref q_t)] := hl
  have hinX3 : ∀ w ∈ u_ws RX3 TX3 2, w ∈ wsX3_firstBall := by decide +kernel
  have k9 : Cond.fieldLink RX3 9 "BallBoxes$Row" "boxes" "[I" ∈ wsX3_firstBall := by decide +kernel
  have Lp2 : ∀  (K : Unit → Option (Int32)), (∀  (H : Heap) (locs : List Loc) (ls : Array Slot), Wd D A s.heap [(q_t, .inr (3, [.ref q_t_boxes, .ref q_t_made])), (q_t_boxes, .inl (cI, 240, .inl t_boxes))] H locs → lv_has ls 2 [] → K () = some r → W p l e ({ frames := 0, cells := 0, slots := 0, locals := 0 } : Room) s m ([.ref q_t] : List Value).toArray below meth c H locs 0 0 (MQ below (QcI D [(q_t, .inr (3, [.ref q_t_boxes, .ref q_t_made])), (q_t_boxes, .inl (cI, 240, .inl t_boxes))] A r) ([.ref q_t] : List Value).toArray s 0 0 A) (F0 m 26 ls [])) → ∀ (n : Nat) (x1 : Int32) (H : Heap) (locs : List Loc) (ls : Array Slot), Wd D A s.heap [(q_t, .inr (3, [.ref q_t_boxes, .ref q_t_made])), (q_t_boxes, .inl (cI, 240, .inl t_boxes))] H locs → lv_has ls 2 [(0, .ref q_t), (1, .int x1)] → L_X3_firstBall_2 N t_boxes K n x1 = some r → W p l e ({ frames := 0, cells := 0, slots := 0, locals := 0 } : Room) s m ([.ref q_t] : List Value).toArray below meth c H locs 0 0 (MQ below (QcI D [(q_t, .inr (3, [.ref q_t_boxes, .ref q_t_made])), (q_t_boxes, .inl (cI, 240, .inl t_boxes))] A r) ([.ref q_t] : List Value).toArray s 0 0 A) (F0 m 2 ls []) := by
    intro  K hKx n
    induction n with
    | zero =>
      intro x1 H locs ls hw hl hf
      rw [L_X3_firstBall_2] at hf
      cases hf
    | succ n ih =>
      intro x1 H locs ls hw hl hf
      rw [L_X3_firstBall_2] at hf
      refine lv_iload_n hx hb dX3_firstBall_2 rfl (lv_at hl 1 rfl) ?_
      refine lv_sipush (v := (240 : Int32)) hx hb dX3_firstBall_3 (by decide) ?_
      refine lv_icmp_ge (tgt := 26) hx hb dX3_firstBall_6 (by decide) (fun c1 => ?_) (fun c1 => ?_)
      · have hf := (if_pos c1).symm.trans hf
        exact hKx  _ _ _ hw (lv_sub hl [] rfl) hf
      · have hf := (if_neg c1).symm.trans hf
        refine lv_aload_n hx hb dX3_firstBall_9 rfl (lv_at hl 0 rfl) ?_
        refine g_get (ci := 3) (C := RX3) (T := TX3) (N := 2) S hinX3 hK hw 0 0 k9 dX3_firstBall_10 rfl rfl (by decide) rfl ?_
        refine lv_iload_n hx hb dX3_firstBall_13 rfl (lv_at hl 1 rfl) ?_
        obtain ⟨b2, hf⟩ := ck_some hf
        refine g_iald S hK hw 1 0 b2 dX3_firstBall_14 rfl rfl ?_
        refine lv_if_eq (tgt := 20) hx hb dX3_firstBall_15 (by decide) (fun c3 => ?_) (fun c3 => ?_)
        · have hf := (if_pos c3).symm.trans hf
          refine lv_iinc (v := (x1 + (1 : Int32))) (lv' := [(1, .int (x1 + (1 : Int32))), (0, .ref q_t)]) hx hb dX3_firstBall_20 hl (k := 1) rfl rfl (by decide) rfl (fun ls hl => ?_)
          refine lv_goto (tgt := 2) hx hb dX3_firstBall_23 (by decide) ?_
          exact ih (x1 + (1 : Int32)) _ _ _ hw (lv_sub hl [1, 0] rfl) hf
        · have hf := (if_neg c3).symm.trans hf
          refine lv_iload_n hx hb dX3_firstBall_18 rfl (lv_at hl 1 rfl) ?_
          obtain rfl := Option.some.inj hf
          exact rt_i S hr hlk hw dX3_firstBall_19
  unfold f_X3_firstBall at hf
  refine lv_iconst (v := (0 : Int32)) hx hb dX3_firstBall_0 (by decide) ?_
  refine lv_istore_n (lv' := [(1, .int (0 : Int32)), (0, .ref q_t)]) hx hb dX3_firstBall_1 rfl hl (by decide) rfl (fun ls hl => ?_)
  refine Lp2  _ (fun  H locs ls hw hl hf => ?_) N (0 : Int32) _ _ _ hw (lv_sub hl [1, 0] rfl) hf
  refine lv_iconst (v := (-1 : Int32)) hx hb dX3_firstBall_26 (by decide) ?_
  obtain rfl := Option.some.inj hf
  exact rt_i S hr hlk hw dX3_firstBall_27

def L_X3_lastBall_4 (N : Nat) (t_boxes : (Nat → Int32)) (K : Unit → Option (Int32)) : Nat → Int32 → Option (Int32)
  | 0, _ => none
  | n + 1, x1 => (if x1 < (0 : Int32) then (K ()) else (ck (inb x1 240) (if (t_boxes x1.toNatClampNeg) = (0 : Int32) then (L_X3_lastBall_4 N t_boxes K n (x1 + (-1 : Int32))) else (some x1))))

def f_X3_lastBall (N : Nat)  (t_boxes : (Nat → Int32)) : Option (Int32) :=
  (L_X3_lastBall_4 N t_boxes (fun _ => (some (-1 : Int32))) N (239 : Int32))

set_option maxHeartbeats 4000000 in
set_option maxRecDepth 100000 in
theorem c_X3_lastBall (l : Launch) (D : va_G) (cI cZ cJ cO : ClassId) (sz : Nat) (q_t q_t_boxes q_t_made : Nat) (N : Nat)  (t_boxes : (Nat → Int32)) (r : Int32) (hf : f_X3_lastBall N t_boxes = some r) : Met l yX3_lastBall wsX3_lastBall ({ frames := 0, cells := 0, slots := 0, locals := 0 }) (PreC D (TY cI cZ cJ cO) [.ref q_t] [(q_t, .inr (3, [.ref q_t_boxes, .ref q_t_made])), (q_t_boxes, .inl (cI, 240, .inl t_boxes))] sz) (QcI D [(q_t, .inr (3, [.ref q_t_boxes, .ref q_t_made])), (q_t_boxes, .inl (cI, 240, .inl t_boxes))] (va_A [(q_t, .inr (3, [.ref q_t_boxes, .ref q_t_made])), (q_t_boxes, .inl (cI, 240, .inl t_boxes))] sz) r) 0 0 (va_A [(q_t, .inr (3, [.ref q_t_boxes, .ref q_t_made])), (q_t_boxes, .inl (cI, 240, .inl t_boxes))] sz) := by
  refine ctr (cc := cX3_lastBall) (maxL := 2) (ret := (some .int)) (by decide) rfl (Nat.le_of_ble_eq_true rfl) ?_
  intro p e s m below meth c S hr hlk hnm hK hN hsz hA hw ls hl
  generalize va_A [(q_t, .inr (3, [.ref q_t_boxes, .ref q_t_made])), (q_t_boxes, .inl (cI, 240, .inl t_boxes))] sz = A at hA hw ⊢
  have S : CallFix p m c cX3_lastBall 2 s ([.ref q_t] : List Value).toArray wsX3_lastBall RX3 := S
  have hx := S.1
  have hb := S.2.1
  have hts := S.2.2.2.2
  have hl : lv_has ls 2 [(0, .ref q_t)] := hl
  have hinX3 : ∀ w ∈ u_ws RX3 TX3 2, w ∈ wsX3_lastBall := by decide +kernel
  have k9 : Cond.fieldLink RX3 9 "BallBoxes$Row" "boxes" "[I" ∈ wsX3_lastBall := by decide +kernel
  have Lp4 : ∀  (K : Unit → Option (Int32)), (∀  (H : Heap) (locs : List Loc) (ls : Array Slot), Wd D A s.heap [(q_t, .inr (3, [.ref q_t_boxes, .ref q_t_made])), (q_t_boxes, .inl (cI, 240, .inl t_boxes))] H locs → lv_has ls 2 [] → K () = some r → W p l e ({ frames := 0, cells := 0, slots := 0, locals := 0 } : Room) s m ([.ref q_t] : List Value).toArray below meth c H locs 0 0 (MQ below (QcI D [(q_t, .inr (3, [.ref q_t_boxes, .ref q_t_made])), (q_t_boxes, .inl (cI, 240, .inl t_boxes))] A r) ([.ref q_t] : List Value).toArray s 0 0 A) (F0 m 25 ls [])) → ∀ (n : Nat) (x1 : Int32) (H : Heap) (locs : List Loc) (ls : Array Slot), Wd D A s.heap [(q_t, .inr (3, [.ref q_t_boxes, .ref q_t_made])), (q_t_boxes, .inl (cI, 240, .inl t_boxes))] H locs → lv_has ls 2 [(0, .ref q_t), (1, .int x1)] → L_X3_lastBall_4 N t_boxes K n x1 = some r → W p l e ({ frames := 0, cells := 0, slots := 0, locals := 0 } : Room) s m ([.ref q_t] : List Value).toArray below meth c H locs 0 0 (MQ below (QcI D [(q_t, .inr (3, [.ref q_t_boxes, .ref q_t_made])), (q_t_boxes, .inl (cI, 240, .inl t_boxes))] A r) ([.ref q_t] : List Value).toArray s 0 0 A) (F0 m 4 ls []) := by
    intro  K hKx n
    induction n with
    | zero =>
      intro x1 H locs ls hw hl hf
      rw [L_X3_lastBall_4] at hf
      cases hf
    | succ n ih =>
      intro x1 H locs ls hw hl hf
      rw [L_X3_lastBall_4] at hf
      refine lv_iload_n hx hb dX3_lastBall_4 rfl (lv_at hl 1 rfl) ?_
      refine lv_if_lt (tgt := 25) hx hb dX3_lastBall_5 (by decide) (fun c1 => ?_) (fun c1 => ?_)
      · have hf := (if_pos c1).symm.trans hf
        exact hKx  _ _ _ hw (lv_sub hl [] rfl) hf
      · have hf := (if_neg c1).symm.trans hf
        refine lv_aload_n hx hb dX3_lastBall_8 rfl (lv_at hl 0 rfl) ?_
        refine g_get (ci := 3) (C := RX3) (T := TX3) (N := 2) S hinX3 hK hw 0 0 k9 dX3_lastBall_9 rfl rfl (by decide) rfl ?_
        refine lv_iload_n hx hb dX3_lastBall_12 rfl (lv_at hl 1 rfl) ?_
        obtain ⟨b2, hf⟩ := ck_some hf
        refine g_iald S hK hw 1 0 b2 dX3_lastBall_13 rfl rfl ?_
        refine lv_if_eq (tgt := 19) hx hb dX3_lastBall_14 (by decide) (fun c3 => ?_) (fun c3 => ?_)
        · have hf := (if_pos c3).symm.trans hf
          refine lv_iinc (v := (x1 + (-1 : Int32))) (lv' := [(1, .int (x1 + (-1 : Int32))), (0, .ref q_t)]) hx hb dX3_lastBall_19 hl (k := 1) rfl rfl (by decide) rfl (fun ls hl => ?_)
          refine lv_goto (tgt := 4) hx hb dX3_lastBall_22 (by decide) ?_
          exact ih (x1 + (-1 : Int32)) _ _ _ hw (lv_sub hl [1, 0] rfl) hf
        · have hf := (if_neg c3).symm.trans hf
          refine lv_iload_n hx hb dX3_lastBall_17 rfl (lv_at hl 1 rfl) ?_
          obtain rfl := Option.some.inj hf
          exact rt_i S hr hlk hw dX3_lastBall_18
  unfold f_X3_lastBall at hf
  refine lv_sipush (v := (239 : Int32)) hx hb dX3_lastBall_0 (by decide) ?_
  refine lv_istore_n (lv' := [(1, .int (239 : Int32)), (0, .ref q_t)]) hx hb dX3_lastBall_3 rfl hl (by decide) rfl (fun ls hl => ?_)
  refine Lp4  _ (fun  H locs ls hw hl hf => ?_) N (239 : Int32) _ _ _ hw (lv_sub hl [1, 0] rfl) hf
  refine lv_iconst (v := (-1 : Int32)) hx hb dX3_lastBall_25 (by decide) ?_
  obtain rfl := Option.some.inj hf
  exact rt_i S hr hlk hw dX3_lastBall_26

def L_X3_bits_5 (N : Nat) (x1 : Int32) (x2 : Int32) (t_boxes : (Nat → Int32)) (K : Int64 → Option (Int64)) : Nat → Int64 → Int32 → Option (Int64)
  | 0, _, _ => none
  | n + 1, x3, x5 => (if x2 ≤ x5 then (K x3) else (bd1 (f_X3_ballAt N (x1 + x5) t_boxes) (fun r2 => (L_X3_bits_5 N x1 x2 t_boxes K n (x3 ||| (shlL r2.toInt64 x5)) (x5 + (1 : Int32))))))

def f_X3_bits (N : Nat) (p1 : Int32) (p2 : Int32) (t_boxes : (Nat → Int32)) : Option (Int64) :=
  (L_X3_bits_5 N p1 p2 t_boxes (fun y4 => (some y4)) N (0 : Int64) (0 : Int32))

set_option maxHeartbeats 4000000 in
set_option maxRecDepth 100000 in
theorem c_X3_bits (l : Launch) (D : va_G) (cI cZ cJ cO : ClassId) (sz : Nat) (q_t q_t_boxes q_t_made : Nat) (N : Nat) (p1 : Int32) (p2 : Int32) (t_boxes : (Nat → Int32)) (r : Int64) (hf : f_X3_bits N p1 p2 t_boxes = some r) : Met l yX3_bits wsX3_bits ({ frames := 2, cells := 0, slots := 0, locals := 41 }) (PreC D (TY cI cZ cJ cO) [.ref q_t, .int p1, .int p2] [(q_t, .inr (3, [.ref q_t_boxes, .ref q_t_made])), (q_t_boxes, .inl (cI, 240, .inl t_boxes))] sz) (QcL D [(q_t, .inr (3, [.ref q_t_boxes, .ref q_t_made])), (q_t_boxes, .inl (cI, 240, .inl t_boxes))] (va_A [(q_t, .inr (3, [.ref q_t_boxes, .ref q_t_made])), (q_t_boxes, .inl (cI, 240, .inl t_boxes))] sz) r) 0 0 (va_A [(q_t, .inr (3, [.ref q_t_boxes, .ref q_t_made])), (q_t_boxes, .inl (cI, 240, .inl t_boxes))] sz) := by
  refine ctr (cc := cX3_bits) (maxL := 6) (ret := (some .long)) (by decide) rfl (Nat.le_of_ble_eq_true rfl) ?_
  intro p e s m below meth c S hr hlk hnm hK hN hsz hA hw ls hl
  generalize va_A [(q_t, .inr (3, [.ref q_t_boxes, .ref q_t_made])), (q_t_boxes, .inl (cI, 240, .inl t_boxes))] sz = A at hA hw ⊢
  have S : CallFix p m c cX3_bits 6 s ([.ref q_t, .int p1, .int p2] : List Value).toArray wsX3_bits RX3 := S
  have hx := S.1
  have hb := S.2.1
  have hts := S.2.2.2.2
  have hl : lv_has ls 6 [(0, .ref q_t), (1, .int p1), (2, .int p2)] := hl
  have Lp5 : ∀ (x1 : Int32) (x2 : Int32) (K : Int64 → Option (Int64)), (∀ (z3 : Int64) (H : Heap) (locs : List Loc) (ls : Array Slot), Wd D A s.heap [(q_t, .inr (3, [.ref q_t_boxes, .ref q_t_made])), (q_t_boxes, .inl (cI, 240, .inl t_boxes))] H locs → lv_has ls 6 [(3, .long z3)] → K z3 = some r → W p l e ({ frames := 2, cells := 0, slots := 0, locals := 41 } : Room) s m ([.ref q_t, .int p1, .int p2] : List Value).toArray below meth c H locs 0 0 (MQ below (QcL D [(q_t, .inr (3, [.ref q_t_boxes, .ref q_t_made])), (q_t_boxes, .inl (cI, 240, .inl t_boxes))] A r) ([.ref q_t, .int p1, .int p2] : List Value).toArray s 0 0 A) (F0 m 32 ls [])) → ∀ (n : Nat) (x3 : Int64) (x5 : Int32) (H : Heap) (locs : List Loc) (ls : Array Slot), Wd D A s.heap [(q_t, .inr (3, [.ref q_t_boxes, .ref q_t_made])), (q_t_boxes, .inl (cI, 240, .inl t_boxes))] H locs → lv_has ls 6 [(0, .ref q_t), (1, .int x1), (2, .int x2), (3, .long x3), (5, .int x5)] → L_X3_bits_5 N x1 x2 t_boxes K n x3 x5 = some r → W p l e ({ frames := 2, cells := 0, slots := 0, locals := 41 } : Room) s m ([.ref q_t, .int p1, .int p2] : List Value).toArray below meth c H locs 0 0 (MQ below (QcL D [(q_t, .inr (3, [.ref q_t_boxes, .ref q_t_made])), (q_t_boxes, .inl (cI, 240, .inl t_boxes))] A r) ([.ref q_t, .int p1, .int p2] : List Value).toArray s 0 0 A) (F0 m 5 ls []) := by
    intro x1 x2 K hKx n
    induction n with
    | zero =>
      intro x3 x5 H locs ls hw hl hf
      rw [L_X3_bits_5] at hf
      cases hf
    | succ n ih =>
      intro x3 x5 H locs ls hw hl hf
      rw [L_X3_bits_5] at hf
      refine lv_iload hx hb dX3_bits_5 (lv_at hl 4 rfl) ?_
      refine lv_iload_n hx hb dX3_bits_7 rfl (lv_at hl 2 rfl) ?_
      refine lv_icmp_ge (tgt := 32) hx hb dX3_bits_8 (by decide) (fun c1 => ?_) (fun c1 => ?_)
      · have hf := (if_pos c1).symm.trans hf
        exact hKx x3 _ _ _ hw (lv_sub hl [3] rfl) hf
      · have hf := (if_neg c1).symm.trans hf
        refine lv_lload_n hx hb dX3_bits_11 rfl (lv_at hl 3 rfl) ?_
        refine lv_aload_n hx hb dX3_bits_12 rfl (lv_at hl 0 rfl) ?_
        refine lv_iload_n hx hb dX3_bits_13 rfl (lv_at hl 1 rfl) ?_
        refine lv_iload hx hb dX3_bits_14 (lv_at hl 4 rfl) ?_
        refine lv_iadd hx hb dX3_bits_16 ?_
        obtain ⟨r2, h3, hf⟩ := bd1_some hf
        refine cl_i (wr := []) (ws' := [(q_t, .inr (3, [.ref q_t_boxes, .ref q_t_made])), (q_t_boxes, .inl (cI, 240, .inl t_boxes))]) hA hw [0, 1] [] [0, 1] rfl rfl rfl (by decide) rfl rfl (va_runV (As := [.int (x1 + x5)]) (rest := [.long x3]) S (c_X3_ballAt l D cI cZ cJ cO _ q_t q_t_boxes q_t_made N (x1 + x5) t_boxes r2 h3) (cwV 1 hts gX3_bits_X3_ballAt rfl rfl rfl (by decide +kernel) ⟨Nat.le_of_ble_eq_true rfl, Nat.le_of_ble_eq_true rfl⟩) (pre_V hK hN hw [0, 1] rfl rfl (C := RX3) (T := TX3) (N := 2) (ci := 3) (q0 := 0) rfl rfl) rfl rfl hl.1 rfl (lv_room (Nat.le_of_ble_eq_true rfl)) dX3_bits_17 ⟨Nat.zero_le _, Nat.zero_le _⟩) (fun H locs hw => ?_)
        refine lv_i2l (v := r2.toInt64) hx hb dX3_bits_20 rfl ?_
        refine lv_iload hx hb dX3_bits_21 (lv_at hl 4 rfl) ?_
        refine lv_lshl (v := (shlL r2.toInt64 x5)) hx hb dX3_bits_23 rfl ?_
        refine lv_lor hx hb dX3_bits_24 ?_
        refine lv_lstore_n (lv' := [(3, .long (x3 ||| (shlL r2.toInt64 x5))), (0, .ref q_t), (1, .int x1), (2, .int x2), (5, .int x5)]) hx hb dX3_bits_25 rfl hl (by decide) rfl (fun ls hl => ?_)
        refine lv_iinc (v := (x5 + (1 : Int32))) (lv' := [(5, .int (x5 + (1 : Int32))), (3, .long (x3 ||| (shlL r2.toInt64 x5))), (0, .ref q_t), (1, .int x1), (2, .int x2)]) hx hb dX3_bits_26 hl (k := 4) rfl rfl (by decide) rfl (fun ls hl => ?_)
        refine lv_goto (tgt := 5) hx hb dX3_bits_29 (by decide) ?_
        exact ih (x3 ||| (shlL r2.toInt64 x5)) (x5 + (1 : Int32)) _ _ _ hw (lv_sub hl [2, 3, 4, 1, 0] rfl) hf
  unfold f_X3_bits at hf
  refine lv_lconst (v := (0 : Int64)) hx hb dX3_bits_0 (by decide) ?_
  refine lv_lstore_n (lv' := [(3, .long (0 : Int64)), (0, .ref q_t), (1, .int p1), (2, .int p2)]) hx hb dX3_bits_1 rfl hl (by decide) rfl (fun ls hl => ?_)
  refine lv_iconst (v := (0 : Int32)) hx hb dX3_bits_2 (by decide) ?_
  refine lv_istore (lv' := [(5, .int (0 : Int32)), (3, .long (0 : Int64)), (0, .ref q_t), (1, .int p1), (2, .int p2)]) hx hb dX3_bits_3 hl (by decide) rfl (fun ls hl => ?_)
  refine Lp5 p1 p2 _ (fun y4 H locs ls hw hl hf => ?_) N (0 : Int64) (0 : Int32) _ _ _ hw (lv_sub hl [2, 3, 4, 1, 0] rfl) hf
  refine lv_lload_n hx hb dX3_bits_32 rfl (lv_at hl 0 rfl) ?_
  obtain rfl := Option.some.inj hf
  exact rt_l S hr hlk hw dX3_bits_33
