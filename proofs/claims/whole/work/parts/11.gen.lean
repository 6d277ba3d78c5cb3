def L_X3_takenBy_7 (N : Nat) (x1 : Int32) (t_boxes : (Nat → Int32)) (K : Int32 → Option (Int32)) : Nat → Int32 → Int32 → Int32 → Option (Int32)
  | 0, _, _, _ => none
  | n + 1, x2, x3, x4 => (if (240 : Int32) ≤ x4 then (K x2) else (ck (inb x4 240) (bd1 (f_X6_loadBehind N x3 (t_boxes x4.toNatClampNeg) x1) (fun r3 => (if r3 ≤ x3 then (L_X3_takenBy_7 N x1 t_boxes K n x2 r3 (x4 + (1 : Int32))) else (L_X3_takenBy_7 N x1 t_boxes K n (x2 + (1 : Int32)) r3 (x4 + (1 : Int32))))))))

def f_X3_takenBy (N : Nat) (p1 : Int32) (t_boxes : (Nat → Int32)) : Option (Int32) :=
  (L_X3_takenBy_7 N p1 t_boxes (fun y6 => (some y6)) N (0 : Int32) (0 : Int32) (0 : Int32))

set_option maxHeartbeats 4000000 in
set_option maxRecDepth 100000 in
theorem c_X3_takenBy (l : Launch) (D : va_G) (cI cZ cJ cO : ClassId) (sz : Nat) (q_t q_t_boxes q_t_made : Nat) (N : Nat) (p1 : Int32) (t_boxes : (Nat → Int32)) (r : Int32) (hf : f_X3_takenBy N p1 t_boxes = some r) : Met l yX3_takenBy wsX3_takenBy ({ frames := 1, cells := 0, slots := 0, locals := 22 }) (PreC D (TY cI cZ cJ cO) [.ref q_t, .int p1] [(q_t, .inr (3, [.ref q_t_boxes, .ref q_t_made])), (q_t_boxes, .inl (cI, 240, .inl t_boxes))] sz) (QcI D [(q_t, .inr (3, [.ref q_t_boxes, .ref q_t_made])), (q_t_boxes, .inl (cI, 240, .inl t_boxes))] (va_A [(q_t, .inr (3, [.ref q_t_boxes, .ref q_t_made])), (q_t_boxes, .inl (cI, 240, .inl t_boxes))] sz) r) 0 0 (va_A [(q_t, .inr (3, [.ref q_t_boxes, .ref q_t_made])), (q_t_boxes, .inl (cI, 240, .inl t_boxes))] sz) := by
  refine ctr (cc := cX3_takenBy) (maxL := 6) (ret := (some .int)) (by decide) rfl (Nat.le_of_ble_eq_true rfl) ?_
  intro p e s m below meth c S hr hlk hnm hK hN hsz hA hw ls hl
  generalize va_A [(q_t, .inr (3, [.ref q_t_boxes, .ref q_t_made])), (q_t_boxes, .inl (cI, 240, .inl t_boxes))] sz = A at hA hw ⊢
  have S : CallFix p m c cX3_takenBy 6 s ([.ref q_t, .int p1] : List Value).toArray wsX3_takenBy RX3 := S
  have hx := S.1
  have hb := S.2.1
  have hts := S.2.2.2.2
  have hl : lv_has ls 6 [(0, .ref q_t), (1, .int p1)] := hl
  have hinX3 : ∀ w ∈ u_ws RX3 TX3 2, w ∈ wsX3_takenBy := by decide +kernel
  have k9 : Cond.fieldLink RX3 9 "BallBoxes$Row" "boxes" "[I" ∈ wsX3_takenBy := by decide +kernel
  have Lp7 : ∀ (x1 : Int32) (K : Int32 → Option (Int32)), (∀ (z2 : Int32) (H : Heap) (locs : List Loc) (ls : Array Slot), Wd D A s.heap [(q_t, .inr (3, [.ref q_t_boxes, .ref q_t_made])), (q_t_boxes, .inl (cI, 240, .inl t_boxes))] H locs → lv_has ls 6 [(2, .int z2)] → K z2 = some r → W p l e ({ frames := 1, cells := 0, slots := 0, locals := 22 } : Room) s m ([.ref q_t, .int p1] : List Value).toArray below meth c H locs 0 0 (MQ below (QcI D [(q_t, .inr (3, [.ref q_t_boxes, .ref q_t_made])), (q_t_boxes, .inl (cI, 240, .inl t_boxes))] A r) ([.ref q_t, .int p1] : List Value).toArray s 0 0 A) (F0 m 47 ls [])) → ∀ (n : Nat) (x2 : Int32) (x3 : Int32) (x4 : Int32) (H : Heap) (locs : List Loc) (ls : Array Slot), Wd D A s.heap [(q_t, .inr (3, [.ref q_t_boxes, .ref q_t_made])), (q_t_boxes, .inl (cI, 240, .inl t_boxes))] H locs → lv_has ls 6 [(0, .ref q_t), (1, .int x1), (2, .int x2), (3, .int x3), (4, .int x4)] → L_X3_takenBy_7 N x1 t_boxes K n x2 x3 x4 = some r → W p l e ({ frames := 1, cells := 0, slots := 0, locals := 22 } : Room) s m ([.ref q_t, .int p1] : List Value).toArray below meth c H locs 0 0 (MQ below (QcI D [(q_t, .inr (3, [.ref q_t_boxes, .ref q_t_made])), (q_t_boxes, .inl (cI, 240, .inl t_boxes))] A r) ([.ref q_t, .int p1] : List Value).toArray s 0 0 A) (F0 m 7 ls []) := by
    intro x1 K hKx n
    induction n with
    | zero =>
      intro x2 x3 x4 H locs ls hw hl hf
      rw [L_X3_takenBy_7] at hf
      cases hf
    | succ n ih =>
      intro x2 x3 x4 H locs ls hw hl hf
      rw [L_X3_takenBy_7] at hf
      refine lv_iload hx hb dX3_takenBy_7 (lv_at hl 4 rfl) ?_
      refine lv_sipush (v := (240 : Int32)) hx hb dX3_takenBy_9 (by decide) ?_
      refine lv_icmp_ge (tgt := 47) hx hb dX3_takenBy_12 (by decide) (fun c1 => ?_) (fun c1 => ?_)
      · have hf := (if_pos c1).symm.trans hf
        exact hKx x2 _ _ _ hw (lv_sub hl [2] rfl) hf
      · have hf := (if_neg c1).symm.trans hf
        refine lv_iload_n hx hb dX3_takenBy_15 rfl (lv_at hl 3 rfl) ?_
        refine lv_aload_n hx hb dX3_takenBy_16 rfl (lv_at hl 0 rfl) ?_
        refine g_get (ci := 3) (C := RX3) (T := TX3) (N := 2) S hinX3 hK hw 0 0 k9 dX3_takenBy_17 rfl rfl (by decide) rfl ?_
        refine lv_iload hx hb dX3_takenBy_20 (lv_at hl 4 rfl) ?_
        obtain ⟨b2, hf⟩ := ck_some hf
        refine g_iald S hK hw 1 0 b2 dX3_takenBy_22 rfl rfl ?_
        refine lv_iload_n hx hb dX3_takenBy_23 rfl (lv_at hl 1 rfl) ?_
        obtain ⟨r3, h4, hf⟩ := bd1_some hf
        refine cl_i (wr := [(q_t, .inr (3, [.ref q_t_boxes, .ref q_t_made])), (q_t_boxes, .inl (cI, 240, .inl t_boxes))]) (ws' := [(q_t, .inr (3, [.ref q_t_boxes, .ref q_t_made])), (q_t_boxes, .inl (cI, 240, .inl t_boxes))]) hA hw [] [0, 1] [0, 1] rfl rfl rfl (by decide) rfl rfl (va_runSN (As := [.int x3, .int (t_boxes x4.toNatClampNeg), .int x1]) (rest := []) S (c_X6_loadBehind l D cI cZ cJ cO _ N x3 (t_boxes x4.toNatClampNeg) x1 r3 h4) ⟨va_cnB 3 hts gX3_takenBy_X6_loadBehind_n26 rfl rfl rfl (hN.1 _ nw_X3_26) (hts (.initialized RX6) (by decide +kernel)) (by decide +kernel) ⟨Nat.le_of_ble_eq_true rfl, Nat.le_of_ble_eq_true rfl⟩, hts (.static yX6_loadBehind) (by decide +kernel), trivial⟩ (pre_S hK hN hw [] rfl rfl) rfl rfl hl.1 rfl (lv_room (Nat.le_of_ble_eq_true rfl)) dX3_takenBy_24 ⟨Nat.zero_le _, Nat.zero_le _⟩) (fun H locs hw => ?_)
        refine lv_istore (lv' := [(5, .int r3), (0, .ref q_t), (1, .int x1), (2, .int x2), (3, .int x3), (4, .int x4)]) hx hb dX3_takenBy_27 hl (by decide) rfl (fun ls hl => ?_)
        refine lv_iload hx hb dX3_takenBy_29 (lv_at hl 0 rfl) ?_
        refine lv_iload_n hx hb dX3_takenBy_31 rfl (lv_at hl 4 rfl) ?_
        refine lv_icmp_le (tgt := 38) hx hb dX3_takenBy_32 (by decide) (fun c5 => ?_) (fun c5 => ?_)
        · have hf := (if_pos c5).symm.trans hf
          refine lv_iload hx hb dX3_takenBy_38 (lv_at hl 0 rfl) ?_
          refine lv_istore_n (lv' := [(3, .int r3), (5, .int r3), (0, .ref q_t), (1, .int x1), (2, .int x2), (4, .int x4)]) hx hb dX3_takenBy_40 rfl hl (by decide) rfl (fun ls hl => ?_)
          refine lv_iinc (v := (x4 + (1 : Int32))) (lv' := [(4, .int (x4 + (1 : Int32))), (3, .int r3), (5, .int r3), (0, .ref q_t), (1, .int x1), (2, .int x2)]) hx hb dX3_takenBy_41 hl (k := 5) rfl rfl (by decide) rfl (fun ls hl => ?_)
          refine lv_goto (tgt := 7) hx hb dX3_takenBy_44 (by decide) ?_
          exact ih x2 r3 (x4 + (1 : Int32)) _ _ _ hw (lv_sub hl [3, 4, 5, 1, 0] rfl) hf
        · have hf := (if_neg c5).symm.trans hf
          refine lv_iinc (v := (x2 + (1 : Int32))) (lv' := [(2, .int (x2 + (1 : Int32))), (5, .int r3), (0, .ref q_t), (1, .int x1), (3, .int x3), (4, .int x4)]) hx hb dX3_takenBy_35 hl (k := 3) rfl rfl (by decide) rfl (fun ls hl => ?_)
          refine lv_iload hx hb dX3_takenBy_38 (lv_at hl 1 rfl) ?_
          refine lv_istore_n (lv' := [(3, .int r3), (2, .int (x2 + (1 : Int32))), (5, .int r3), (0, .ref q_t), (1, .int x1), (4, .int x4)]) hx hb dX3_takenBy_40 rfl hl (by decide) rfl (fun ls hl => ?_)
          refine lv_iinc (v := (x4 + (1 : Int32))) (lv' := [(4, .int (x4 + (1 : Int32))), (3, .int r3), (2, .int (x2 + (1 : Int32))), (5, .int r3), (0, .ref q_t), (1, .int x1)]) hx hb dX3_takenBy_41 hl (k := 5) rfl rfl (by decide) rfl (fun ls hl => ?_)
          refine lv_goto (tgt := 7) hx hb dX3_takenBy_44 (by decide) ?_
          exact ih (x2 + (1 : Int32)) r3 (x4 + (1 : Int32)) _ _ _ hw (lv_sub hl [4, 5, 2, 1, 0] rfl) hf
  unfold f_X3_takenBy at hf
  refine lv_iconst (v := (0 : Int32)) hx hb dX3_takenBy_0 (by decide) ?_
  refine lv_istore_n (lv' := [(2, .int (0 : Int32)), (0, .ref q_t), (1, .int p1)]) hx hb dX3_takenBy_1 rfl hl (by decide) rfl (fun ls hl => ?_)
  refine lv_iconst (v := (0 : Int32)) hx hb dX3_takenBy_2 (by decide) ?_
  refine lv_istore_n (lv' := [(3, .int (0 : Int32)), (2, .int (0 : Int32)), (0, .ref q_t), (1, .int p1)]) hx hb dX3_takenBy_3 rfl hl (by decide) rfl (fun ls hl => ?_)
  refine lv_iconst (v := (0 : Int32)) hx hb dX3_takenBy_4 (by decide) ?_
  refine lv_istore (lv' := [(4, .int (0 : Int32)), (3, .int (0 : Int32)), (2, .int (0 : Int32)), (0, .ref q_t), (1, .int p1)]) hx hb dX3_takenBy_5 hl (by decide) rfl (fun ls hl => ?_)
  refine Lp7 p1 _ (fun y6 H locs ls hw hl hf => ?_) N (0 : Int32) (0 : Int32) (0 : Int32) _ _ _ hw (lv_sub hl [3, 4, 2, 1, 0] rfl) hf
  refine lv_iload_n hx hb dX3_takenBy_47 rfl (lv_at hl 0 rfl) ?_
  obtain rfl := Option.some.inj hf
  exact rt_i S hr hlk hw dX3_takenBy_48

def L_X3_makeByCarrier_5 (N : Nat) (x1 : Int32) (x2 : Int32) (t_boxes : (Nat → Int32)) (K : Int32 → (Nat → Int32) → Option (Int32 × (Nat → Int32))) : Nat → Int32 → Int32 → (Nat → Int32) → Option (Int32 × (Nat → Int32))
  | 0, _, _, _ => none
  | n + 1, x3, x4, w_t_made => (if (240 : Int32) ≤ x4 then (K x3 w_t_made) else (if x2 = (0 : Int32) then (bd1 (f_X3_ballAt N ((239 : Int32) - x4) t_boxes) (fun r3 => (bd1 (f_X6_loadBehind N x3 r3 x1) (fun r5 => (bd1 (f_X3_makeBox N ((239 : Int32) - x4) ((r3 + x3) - r5) w_t_made) (fun u7 => (L_X3_makeByCarrier_5 N x1 x2 t_boxes K n r5 (x4 + (1 : Int32)) u7))))))) else (bd1 (f_X3_ballAt N x4 t_boxes) (fun r9 => (bd1 (f_X6_loadBehind N x3 r9 x1) (fun r11 => (bd1 (f_X3_makeBox N x4 ((r9 + x3) - r11) w_t_made) (fun u13 => (L_X3_makeByCarrier_5 N x1 x2 t_boxes K n r11 (x4 + (1 : Int32)) u13)))))))))

def f_X3_makeByCarrier (N : Nat) (p1 : Int32) (p2 : Int32) (t_boxes : (Nat → Int32)) (t_made : (Nat → Int32)) : Option (Int32 × (Nat → Int32)) :=
  (L_X3_makeByCarrier_5 N p1 p2 t_boxes (fun y15 u16 => (some (y15, u16))) N (0 : Int32) (0 : Int32) t_made)

set_option maxHeartbeats 4000000 in
set_option maxRecDepth 100000 in
theorem c_X3_makeByCarrier (l : Launch) (D : va_G) (cI cZ cJ cO : ClassId) (sz : Nat) (q_t q_t_boxes q_t_made : Nat) (N : Nat) (p1 : Int32) (p2 : Int32) (t_boxes : (Nat → Int32)) (t_made : (Nat → Int32)) (r : Int32) (o_t_made : (Nat → Int32)) (hf : f_X3_makeByCarrier N p1 p2 t_boxes t_made = some (r, o_t_made)) : Met l yX3_makeByCarrier wsX3_makeByCarrier ({ frames := 2, cells := 0, slots := 0, locals := 42 }) (PreC D (TY cI cZ cJ cO) [.ref q_t, .int p1, .int p2] [(q_t, .inr (3, [.ref q_t_boxes, .ref q_t_made])), (q_t_boxes, .inl (cI, 240, .inl t_boxes)), (q_t_made, .inl (cI, 240, .inl t_made))] sz) (QcI D [(q_t, .inr (3, [.ref q_t_boxes, .ref q_t_made])), (q_t_boxes, .inl (cI, 240, .inl t_boxes)), (q_t_made, .inl (cI, 240, .inl o_t_made))] (va_A [(q_t, .inr (3, [.ref q_t_boxes, .ref q_t_made])), (q_t_boxes, .inl (cI, 240, .inl t_boxes)), (q_t_made, .inl (cI, 240, .inl t_made))] sz) r) 0 0 (va_A [(q_t, .inr (3, [.ref q_t_boxes, .ref q_t_made])), (q_t_boxes, .inl (cI, 240, .inl t_boxes)), (q_t_made, .inl (cI, 240, .inl t_made))] sz) := by
  refine ctr (cc := cX3_makeByCarrier) (maxL := 8) (ret := (some .int)) (by decide) rfl (Nat.le_of_ble_eq_true rfl) ?_
  intro p e s m below meth c S hr hlk hnm hK hN hsz hA hw ls hl
  generalize va_A [(q_t, .inr (3, [.ref q_t_boxes, .ref q_t_made])), (q_t_boxes, .inl (cI, 240, .inl t_boxes)), (q_t_made, .inl (cI, 240, .inl t_made))] sz = A at hA hw ⊢
  have S : CallFix p m c cX3_makeByCarrier 8 s ([.ref q_t, .int p1, .int p2] : List Value).toArray wsX3_makeByCarrier RX3 := S
  have hx := S.1
  have hb := S.2.1
  have hts := S.2.2.2.2
  have hl : lv_has ls 8 [(0, .ref q_t), (1, .int p1), (2, .int p2)] := hl
  have Lp5 : ∀ (x1 : Int32) (x2 : Int32) (K : Int32 → (Nat → Int32) → Option (Int32 × (Nat → Int32))), (∀ (z3 : Int32) (z_t_made : (Nat → Int32)) (H : Heap) (locs : List Loc) (ls : Array Slot), Wd D A s.heap [(q_t, .inr (3, [.ref q_t_boxes, .ref q_t_made])), (q_t_boxes, .inl (cI, 240, .inl t_boxes)), (q_t_made, .inl (cI, 240, .inl z_t_made))] H locs → lv_has ls 8 [(3, .int z3)] → K z3 z_t_made = some (r, o_t_made) → W p l e ({ frames := 2, cells := 0, slots := 0, locals := 42 } : Room) s m ([.ref q_t, .int p1, .int p2] : List Value).toArray below meth c H locs 0 0 (MQ below (QcI D [(q_t, .inr (3, [.ref q_t_boxes, .ref q_t_made])), (q_t_boxes, .inl (cI, 240, .inl t_boxes)), (q_t_made, .inl (cI, 240, .inl o_t_made))] A r) ([.ref q_t, .int p1, .int p2] : List Value).toArray s 0 0 A) (F0 m 69 ls [])) → ∀ (n : Nat) (x3 : Int32) (x4 : Int32) (w_t_made : (Nat → Int32)) (H : Heap) (locs : List Loc) (ls : Array Slot), Wd D A s.heap [(q_t, .inr (3, [.ref q_t_boxes, .ref q_t_made])), (q_t_boxes, .inl (cI, 240, .inl t_boxes)), (q_t_made, .inl (cI, 240, .inl w_t_made))] H locs → lv_has ls 8 [(0, .ref q_t), (1, .int x1), (2, .int x2), (3, .int x3), (4, .int x4)] → L_X3_makeByCarrier_5 N x1 x2 t_boxes K n x3 x4 w_t_made = some (r, o_t_made) → W p l e ({ frames := 2, cells := 0, slots := 0, locals := 42 } : Room) s m ([.ref q_t, .int p1, .int p2] : List Value).toArray below meth c H locs 0 0 (MQ below (QcI D [(q_t, .inr (3, [.ref q_t_boxes, .ref q_t_made])), (q_t_boxes, .inl (cI, 240, .inl t_boxes)), (q_t_made, .inl (cI, 240, .inl o_t_made))] A r) ([.ref q_t, .int p1, .int p2] : List Value).toArray s 0 0 A) (F0 m 5 ls []) := by
    intro x1 x2 K hKx n
    induction n with
    | zero =>
      intro x3 x4 w_t_made H locs ls hw hl hf
      rw [L_X3_makeByCarrier_5] at hf
      cases hf
    | succ n ih =>
      intro x3 x4 w_t_made H locs ls hw hl hf
      rw [L_X3_makeByCarrier_5] at hf
      refine lv_iload hx hb dX3_makeByCarrier_5 (lv_at hl 4 rfl) ?_
      refine lv_sipush (v := (240 : Int32)) hx hb dX3_makeByCarrier_7 (by decide) ?_
      refine lv_icmp_ge (tgt := 69) hx hb dX3_makeByCarrier_10 (by decide) (fun c1 => ?_) (fun c1 => ?_)
      · have hf := (if_pos c1).symm.trans hf
        exact hKx x3 w_t_made _ _ _ hw (lv_sub hl [3] rfl) hf
      · have hf := (if_neg c1).symm.trans hf
        refine lv_iload_n hx hb dX3_makeByCarrier_13 rfl (lv_at hl 2 rfl) ?_
        refine lv_if_eq (tgt := 22) hx hb dX3_makeByCarrier_14 (by decide) (fun c2 => ?_) (fun c2 => ?_)
        · have hf := (if_pos c2).symm.trans hf
          refine lv_sipush (v := (239 : Int32)) hx hb dX3_makeByCarrier_22 (by decide) ?_
          refine lv_iload hx hb dX3_makeByCarrier_25 (lv_at hl 4 rfl) ?_
          refine lv_isub hx hb dX3_makeByCarrier_27 ?_
          refine lv_istore (lv' := [(5, .int ((239 : Int32) - x4)), (0, .ref q_t), (1, .int x1), (2, .int x2), (3, .int x3), (4, .int x4)]) hx hb dX3_makeByCarrier_28 hl (by decide) rfl (fun ls hl => ?_)
          refine lv_aload_n hx hb dX3_makeByCarrier_30 rfl (lv_at hl 1 rfl) ?_
          refine lv_iload hx hb dX3_makeByCarrier_31 (lv_at hl 0 rfl) ?_
          obtain ⟨r3, h4, hf⟩ := bd1_some hf
          refine cl_i (wr := [(q_t_made, .inl (cI, 240, .inl w_t_made))]) (ws' := [(q_t, .inr (3, [.ref q_t_boxes, .ref q_t_made])), (q_t_boxes, .inl (cI, 240, .inl t_boxes)), (q_t_made, .inl (cI, 240, .inl w_t_made))]) hA hw [0, 1] [2] [1, 2, 0] rfl rfl rfl (by decide) rfl rfl (va_runV (As := [.int ((239 : Int32) - x4)]) (rest := []) S (c_X3_ballAt l D cI cZ cJ cO _ q_t q_t_boxes q_t_made N ((239 : Int32) - x4) t_boxes r3 h4) (cwV 1 hts gX3_makeByCarrier_X3_ballAt rfl rfl rfl (by decide +kernel) ⟨Nat.le_of_ble_eq_true rfl, Nat.le_of_ble_eq_true rfl⟩) (pre_V hK hN hw [0, 1] rfl rfl (C := RX3) (T := TX3) (N := 2) (ci := 3) (q0 := 0) rfl rfl) rfl rfl hl.1 rfl (lv_room (Nat.le_of_ble_eq_true rfl)) dX3_makeByCarrier_33 ⟨Nat.zero_le _, Nat.zero_le _⟩) (fun H locs hw => ?_)
          refine lv_istore (lv' := [(6, .int r3), (5, .int ((239 : Int32) - x4)), (0, .ref q_t), (1, .int x1), (2, .int x2), (3, .int x3), (4, .int x4)]) hx hb dX3_makeByCarrier_36 hl (by decide) rfl (fun ls hl => ?_)
          refine lv_iload_n hx hb dX3_makeByCarrier_38 rfl (lv_at hl 5 rfl) ?_
          refine lv_iload hx hb dX3_makeByCarrier_39 (lv_at hl 0 rfl) ?_
          refine lv_iload_n hx hb dX3_makeByCarrier_41 rfl (lv_at hl 3 rfl) ?_
          obtain ⟨r5, h6, hf⟩ := bd1_some hf
          refine cl_i (wr := [(q_t, .inr (3, [.ref q_t_boxes, .ref q_t_made])), (q_t_boxes, .inl (cI, 240, .inl t_boxes)), (q_t_made, .inl (cI, 240, .inl w_t_made))]) (ws' := [(q_t, .inr (3, [.ref q_t_boxes, .ref q_t_made])), (q_t_boxes, .inl (cI, 240, .inl t_boxes)), (q_t_made, .inl (cI, 240, .inl w_t_made))]) hA hw [] [0, 1, 2] [0, 1, 2] rfl rfl rfl (by decide) rfl rfl (va_runSN (As := [.int x3, .int r3, .int x1]) (rest := []) S (c_X6_loadBehind l D cI cZ cJ cO _ N x3 r3 x1 r5 h6) ⟨va_cnB 3 hts gX3_makeByCarrier_X6_loadBehind_n26 rfl rfl rfl (hN.1 _ nw_X3_26) (hts (.initialized RX6) (by decide +kernel)) (by decide +kernel) ⟨Nat.le_of_ble_eq_true rfl, Nat.le_of_ble_eq_true rfl⟩, hts (.static yX6_loadBehind) (by decide +kernel), trivial⟩ (pre_S hK hN hw [] rfl rfl) rfl rfl hl.1 rfl (lv_room (Nat.le_of_ble_eq_true rfl)) dX3_makeByCarrier_42 ⟨Nat.zero_le _, Nat.zero_le _⟩) (fun H locs hw => ?_)
          refine lv_istore (lv' := [(7, .int r5), (6, .int r3), (5, .int ((239 : Int32) - x4)), (0, .ref q_t), (1, .int x1), (2, .int x2), (3, .int x3), (4, .int x4)]) hx hb dX3_makeByCarrier_45 hl (by decide) rfl (fun ls hl => ?_)
          refine lv_aload_n hx hb dX3_makeByCarrier_47 rfl (lv_at hl 3 rfl) ?_
          refine lv_iload hx hb dX3_makeByCarrier_48 (lv_at hl 2 rfl) ?_
          refine lv_iload hx hb dX3_makeByCarrier_50 (lv_at hl 1 rfl) ?_
          refine lv_iload_n hx hb dX3_makeByCarrier_52 rfl (lv_at hl 6 rfl) ?_
          refine lv_iadd hx hb dX3_makeByCarrier_53 ?_
          refine lv_iload hx hb dX3_makeByCarrier_54 (lv_at hl 0 rfl) ?_
          refine lv_isub hx hb dX3_makeByCarrier_56 ?_
          obtain ⟨u7, h8, hf⟩ := bd1_some hf
          refine cl_v (wr := [(q_t_boxes, .inl (cI, 240, .inl t_boxes))]) (ws' := [(q_t, .inr (3, [.ref q_t_boxes, .ref q_t_made])), (q_t_boxes, .inl (cI, 240, .inl t_boxes)), (q_t_made, .inl (cI, 240, .inl u7))]) hA hw [0, 2] [1] [1, 0, 2] rfl rfl rfl (by decide) rfl rfl (va_runV (As := [.int ((239 : Int32) - x4), .int ((r3 + x3) - r5)]) (rest := []) S (c_X3_makeBox l D cI cZ cJ cO _ q_t q_t_boxes q_t_made N ((239 : Int32) - x4) ((r3 + x3) - r5) w_t_made u7 h8) (cwV 2 hts gX3_makeByCarrier_X3_makeBox rfl rfl rfl (by decide +kernel) ⟨Nat.le_of_ble_eq_true rfl, Nat.le_of_ble_eq_true rfl⟩) (pre_V hK hN hw [0, 2] rfl rfl (C := RX3) (T := TX3) (N := 2) (ci := 3) (q0 := 0) rfl rfl) rfl rfl hl.1 rfl (lv_room (Nat.le_of_ble_eq_true rfl)) dX3_makeByCarrier_57 ⟨Nat.zero_le _, Nat.zero_le _⟩) (fun H locs hw => ?_)
          refine lv_iload hx hb dX3_makeByCarrier_60 (lv_at hl 0 rfl) ?_
          refine lv_istore_n (lv' := [(3, .int r5), (7, .int r5), (6, .int r3), (5, .int ((239 : Int32) - x4)), (0, .ref q_t), (1, .int x1), (2, .int x2), (4, .int x4)]) hx hb dX3_makeByCarrier_62 rfl hl (by decide) rfl (fun ls hl => ?_)
          refine lv_iinc (v := (x4 + (1 : Int32))) (lv' := [(4, .int (x4 + (1 : Int32))), (3, .int r5), (7, .int r5), (6, .int r3), (5, .int ((239 : Int32) - x4)), (0, .ref q_t), (1, .int x1), (2, .int x2)]) hx hb dX3_makeByCarrier_63 hl (k := 7) rfl rfl (by decide) rfl (fun ls hl => ?_)
          refine lv_goto (tgt := 5) hx hb dX3_makeByCarrier_66 (by decide) ?_
          exact ih r5 (x4 + (1 : Int32)) u7 _ _ _ hw (lv_sub hl [5, 6, 7, 1, 0] rfl) hf
        · have hf := (if_neg c2).symm.trans hf
          refine lv_iload hx hb dX3_makeByCarrier_17 (lv_at hl 4 rfl) ?_
          refine lv_goto (tgt := 28) hx hb dX3_makeByCarrier_19 (by decide) ?_
          refine lv_istore (lv' := [(5, .int x4), (0, .ref q_t), (1, .int x1), (2, .int x2), (3, .int x3), (4, .int x4)]) hx hb dX3_makeByCarrier_28 hl (by decide) rfl (fun ls hl => ?_)
          refine lv_aload_n hx hb dX3_makeByCarrier_30 rfl (lv_at hl 1 rfl) ?_
          refine lv_iload hx hb dX3_makeByCarrier_31 (lv_at hl 0 rfl) ?_
          obtain ⟨r9, h10, hf⟩ := bd1_some hf
          refine cl_i (wr := [(q_t_made, .inl (cI, 240, .inl w_t_made))]) (ws' := [(q_t, .inr (3, [.ref q_t_boxes, .ref q_t_made])), (q_t_boxes, .inl (cI, 240, .inl t_boxes)), (q_t_made, .inl (cI, 240, .inl w_t_made))]) hA hw [0, 1] [2] [1, 2, 0] rfl rfl rfl (by decide) rfl rfl (va_runV (As := [.int x4]) (rest := []) S (c_X3_ballAt l D cI cZ cJ cO _ q_t q_t_boxes q_t_made N x4 t_boxes r9 h10) (cwV 1 hts gX3_makeByCarrier_X3_ballAt rfl rfl rfl (by decide +kernel) ⟨Nat.le_of_ble_eq_true rfl, Nat.le_of_ble_eq_true rfl⟩) (pre_V hK hN hw [0, 1] rfl rfl (C := RX3) (T := TX3) (N := 2) (ci := 3) (q0 := 0) rfl rfl) rfl rfl hl.1 rfl (lv_room (Nat.le_of_ble_eq_true rfl)) dX3_makeByCarrier_33 ⟨Nat.zero_le _, Nat.zero_le _⟩) (fun H locs hw => ?_)
          refine lv_istore (lv' := [(6, .int r9), (5, .int x4), (0, .ref q_t), (1, .int x1), (2, .int x2), (3, .int x3), (4, .int x4)]) hx hb dX3_makeByCarrier_36 hl (by decide) rfl (fun ls hl => ?_)
          refine lv_iload_n hx hb dX3_makeByCarrier_38 rfl (lv_at hl 5 rfl) ?_
          refine lv_iload hx hb dX3_makeByCarrier_39 (lv_at hl 0 rfl) ?_
          refine lv_iload_n hx hb dX3_makeByCarrier_41 rfl (lv_at hl 3 rfl) ?_
          obtain ⟨r11, h12, hf⟩ := bd1_some hf
          refine cl_i (wr := [(q_t, .inr (3, [.ref q_t_boxes, .ref q_t_made])), (q_t_boxes, .inl (cI, 240, .inl t_boxes)), (q_t_made, .inl (cI, 240, .inl w_t_made))]) (ws' := [(q_t, .inr (3, [.ref q_t_boxes, .ref q_t_made])), (q_t_boxes, .inl (cI, 240, .inl t_boxes)), (q_t_made, .inl (cI, 240, .inl w_t_made))]) hA hw [] [0, 1, 2] [0, 1, 2] rfl rfl rfl (by decide) rfl rfl (va_runSN (As := [.int x3, .int r9, .int x1]) (rest := []) S (c_X6_loadBehind l D cI cZ cJ cO _ N x3 r9 x1 r11 h12) ⟨va_cnB 3 hts gX3_makeByCarrier_X6_loadBehind_n26 rfl rfl rfl (hN.1 _ nw_X3_26) (hts (.initialized RX6) (by decide +kernel)) (by decide +kernel) ⟨Nat.le_of_ble_eq_true rfl, Nat.le_of_ble_eq_true rfl⟩, hts (.static yX6_loadBehind) (by decide +kernel), trivial⟩ (pre_S hK hN hw [] rfl rfl) rfl rfl hl.1 rfl (lv_room (Nat.le_of_ble_eq_true rfl)) dX3_makeByCarrier_42 ⟨Nat.zero_le _, Nat.zero_le _⟩) (fun H locs hw => ?_)
          refine lv_istore (lv' := [(7, .int r11), (6, .int r9), (5, .int x4), (0, .ref q_t), (1, .int x1), (2, .int x2), (3, .int x3), (4, .int x4)]) hx hb dX3_makeByCarrier_45 hl (by decide) rfl (fun ls hl => ?_)
          refine lv_aload_n hx hb dX3_makeByCarrier_47 rfl (lv_at hl 3 rfl) ?_
          refine lv_iload hx hb dX3_makeByCarrier_48 (lv_at hl 2 rfl) ?_
          refine lv_iload hx hb dX3_makeByCarrier_50 (lv_at hl 1 rfl) ?_
          refine lv_iload_n hx hb dX3_makeByCarrier_52 rfl (lv_at hl 6 rfl) ?_
          refine lv_iadd hx hb dX3_makeByCarrier_53 ?_
          refine lv_iload hx hb dX3_makeByCarrier_54 (lv_at hl 0 rfl) ?_
          refine lv_isub hx hb dX3_makeByCarrier_56 ?_
          obtain ⟨u13, h14, hf⟩ := bd1_some hf
          refine cl_v (wr := [(q_t_boxes, .inl (cI, 240, .inl t_boxes))]) (ws' := [(q_t, .inr (3, [.ref q_t_boxes, .ref q_t_made])), (q_t_boxes, .inl (cI, 240, .inl t_boxes)), (q_t_made, .inl (cI, 240, .inl u13))]) hA hw [0, 2] [1] [1, 0, 2] rfl rfl rfl (by decide) rfl rfl (va_runV (As := [.int x4, .int ((r9 + x3) - r11)]) (rest := []) S (c_X3_makeBox l D cI cZ cJ cO _ q_t q_t_boxes q_t_made N x4 ((r9 + x3) - r11) w_t_made u13 h14) (cwV 2 hts gX3_makeByCarrier_X3_makeBox rfl rfl rfl (by decide +kernel) ⟨Nat.le_of_ble_eq_true rfl, Nat.le_of_ble_eq_true rfl⟩) (pre_V hK hN hw [0, 2] rfl rfl (C := RX3) (T := TX3) (N := 2) (ci := 3) (q0 := 0) rfl rfl) rfl rfl hl.1 rfl (lv_room (Nat.le_of_ble_eq_true rfl)) dX3_makeByCarrier_57 ⟨Nat.zero_le _, Nat.zero_le _⟩) (fun H locs hw => ?_)
          refine lv_iload hx hb dX3_makeByCarrier_60 (lv_at hl 0 rfl) ?_
          refine lv_istore_n (lv' := [(3, .int r11), (7, .int r11), (6, .int r9), (5, .int x4), (0, .ref q_t), (1, .int x1), (2, .int x2), (4, .int x4)]) hx hb dX3_makeByCarrier_62 rfl hl (by decide) rfl (fun ls hl => ?_)
          refine lv_iinc (v := (x4 + (1 : Int32))) (lv' := [(4, .int (x4 + (1 : Int32))), (3, .int r11), (7, .int r11), (6, .int r9), (5, .int x4), (0, .ref q_t), (1, .int x1), (2, .int x2)]) hx hb dX3_makeByCarrier_63 hl (k := 7) rfl rfl (by decide) rfl (fun ls hl => ?_)
          refine lv_goto (tgt := 5) hx hb dX3_makeByCarrier_66 (by decide) ?_
          exact ih r11 (x4 + (1 : Int32)) u13 _ _ _ hw (lv_sub hl [5, 6, 7, 1, 0] rfl) hf
  unfold f_X3_makeByCarrier at hf
  refine lv_iconst (v := (0 : Int32)) hx hb dX3_makeByCarrier_0 (by decide) ?_
  refine lv_istore_n (lv' := [(3, .int (0 : Int32)), (0, .ref q_t), (1, .int p1), (2, .int p2)]) hx hb dX3_makeByCarrier_1 rfl hl (by decide) rfl (fun ls hl => ?_)
  refine lv_iconst (v := (0 : Int32)) hx hb dX3_makeByCarrier_2 (by decide) ?_
  refine lv_istore (lv' := [(4, .int (0 : Int32)), (3, .int (0 : Int32)), (0, .ref q_t), (1, .int p1), (2, .int p2)]) hx hb dX3_makeByCarrier_3 hl (by decide) rfl (fun ls hl => ?_)
  refine Lp5 p1 p2 _ (fun y15 u16 H locs ls hw hl hf => ?_) N (0 : Int32) (0 : Int32) t_made _ _ _ hw (lv_sub hl [2, 3, 4, 1, 0] rfl) hf
  refine lv_iload_n hx hb dX3_makeByCarrier_69 rfl (lv_at hl 0 rfl) ?_
  obtain ⟨rfl, rfl⟩ := pr2 (Option.some.inj hf)
  exact rt_i S hr hlk hw dX3_makeByCarrier_70

def L_X3_becomeMade_4 (N : Nat) (t_made : (Nat → Int32)) (K : Int32 → (Nat → Int32) → Option (Int32 × (Nat → Int32))) : Nat → Int32 → Int32 → (Nat → Int32) → Option (Int32 × (Nat → Int32))
  | 0, _, _, _ => none
  | n + 1, x1, x2, w_t_boxes => (if (240 : Int32) ≤ x2 then (K x1 w_t_boxes) else (ck (inb x2 240) (ck (inb x2 240) (if (w_t_boxes x2.toNatClampNeg) = (t_made x2.toNatClampNeg) then (ck (inb x2 240) (ck (inb x2 240) (L_X3_becomeMade_4 N t_made K n x1 (x2 + (1 : Int32)) (upd w_t_boxes x2.toNatClampNeg (t_made x2.toNatClampNeg))))) else (ck (inb x2 240) (ck (inb x2 240) (L_X3_becomeMade_4 N t_made K n (x1 + (1 : Int32)) (x2 + (1 : Int32)) (upd w_t_boxes x2.toNatClampNeg (t_made x2.toNatClampNeg)))))))))

def f_X3_becomeMade (N : Nat)  (t_boxes : (Nat → Int32)) (t_made : (Nat → Int32)) : Option (Int32 × (Nat → Int32)) :=
  (L_X3_becomeMade_4 N t_made (fun y9 u10 => (some (y9, u10))) N (0 : Int32) (0 : Int32) t_boxes)

set_option maxHeartbeats 4000000 in
set_option maxRecDepth 100000 in
theorem c_X3_becomeMade (l : Launch) (D : va_G) (cI cZ cJ cO : ClassId) (sz : Nat) (q_t q_t_boxes q_t_made : Nat) (N : Nat)  (t_boxes : (Nat → Int32)) (t_made : (Nat → Int32)) (r : Int32) (o_t_boxes : (Nat → Int32)) (hf : f_X3_becomeMade N t_boxes t_made = some (r, o_t_boxes)) : Met l yX3_becomeMade wsX3_becomeMade ({ frames := 0, cells := 0, slots := 0, locals := 0 }) (PreC D (TY cI cZ cJ cO) [.ref q_t] [(q_t, .inr (3, [.ref q_t_boxes, .ref q_t_made])), (q_t_boxes, .inl (cI, 240, .inl t_boxes)), (q_t_made, .inl (cI, 240, .inl t_made))] sz) (QcI D [(q_t, .inr (3, [.ref q_t_boxes, .ref q_t_made])), (q_t_boxes, .inl (cI, 240, .inl o_t_boxes)), (q_t_made, .inl (cI, 240, .inl t_made))] (va_A [(q_t, .inr (3, [.ref q_t_boxes, .ref q_t_made])), (q_t_boxes, .inl (cI, 240, .inl t_boxes)), (q_t_made, .inl (cI, 240, .inl t_made))] sz) r) 0 0 (va_A [(q_t, .inr (3, [.ref q_t_boxes, .ref q_t_made])), (q_t_boxes, .inl (cI, 240, .inl t_boxes)), (q_t_made, .inl (cI, 240, .inl t_made))] sz) := by
  refine ctr (cc := cX3_becomeMade) (maxL := 3) (ret := (some .int)) (by decide) rfl (Nat.le_of_ble_eq_true rfl) ?_
  intro p e s m below meth c S hr hlk hnm hK hN hsz hA hw ls hl
  generalize va_A [(q_t, .inr (3, [.ref q_t_boxes, .ref q_t_made])), (q_t_boxes, .inl (cI, 240, .inl t_boxes)), (q_t_made, .inl (cI, 240, .inl t_made))] sz = A at hA hw ⊢
  have S : CallFix p m c cX3_becomeMade 3 s ([.ref q_t] : List Value).toArray wsX3_becomeMade RX3 := S
  have hx := S.1
  have hb := S.2.1
  have hts := S.2.2.2.2
  have hl : lv_has ls 3 [(0, .ref q_t)] := hl
  have hinX3 : ∀ w ∈ u_ws RX3 TX3 2, w ∈ wsX3_becomeMade := by decide +kernel
  have k9 : Cond.fieldLink RX3 9 "BallBoxes$Row" "boxes" "[I" ∈ wsX3_becomeMade := by decide +kernel
  have k15 : Cond.fieldLink RX3 15 "BallBoxes$Row" "made" "[I" ∈ wsX3_becomeMade := by decide +kernel
  have Lp4 : ∀  (K : Int32 → (Nat → Int32) → Option (Int32 × (Nat → Int32))), (∀ (z1 : Int32) (z_t_boxes : (Nat → Int32)) (H : Heap) (locs : List Loc) (ls : Array Slot), Wd D A s.heap [(q_t, .inr (3, [.ref q_t_boxes, .ref q_t_made])), (q_t_boxes, .inl (cI, 240, .inl z_t_boxes)), (q_t_made, .inl (cI, 240, .inl t_made))] H locs → lv_has ls 3 [(1, .int z1)] → K z1 z_t_boxes = some (r, o_t_boxes) → W p l e ({ frames := 0, cells := 0, slots := 0, locals := 0 } : Room) s m ([.ref q_t] : List Value).toArray below meth c H locs 0 0 (MQ below (QcI D [(q_t, .inr (3, [.ref q_t_boxes, .ref q_t_made])), (q_t_boxes, .inl (cI, 240, .inl o_t_boxes)), (q_t_made, .inl (cI, 240, .inl t_made))] A r) ([.ref q_t] : List Value).toArray s 0 0 A) (F0 m 47 ls [])) → ∀ (n : Nat) (x1 : Int32) (x2 : Int32) (w_t_boxes : (Nat → Int32)) (H : Heap) (locs : List Loc) (ls : Array Slot), Wd D A s.heap [(q_t, .inr (3, [.ref q_t_boxes, .ref q_t_made])), (q_t_boxes, .inl (cI, 240, .inl w_t_boxes)), (q_t_made, .inl (cI, 240, .inl t_made))] H locs → lv_has ls 3 [(0, .ref q_t), (1, .int x1), (2, .int x2)] → L_X3_becomeMade_4 N t_made K n x1 x2 w_t_boxes = some (r, o_t_boxes) → W p l e ({ frames := 0, cells := 0, slots := 0, locals := 0 } : Room) s m ([.ref q_t] : List Value).toArray below meth c H locs 0 0 (MQ below (QcI D [(q_t, .inr (3, [.ref q_t_boxes, .ref q_t_made])), (q_t_boxes, .inl (cI, 240, .inl o_t_boxes)), (q_t_made, .inl (cI, 240, .inl t_made))] A r) ([.ref q_t] : List Value).toArray s 0 0 A) (F0 m 4 ls []) := by
    intro  K hKx n
    induction n with
    | zero =>
      intro x1 x2 w_t_boxes H locs ls hw hl hf
      rw [L_X3_becomeMade_4] at hf
      cases hf
    | succ n ih =>
      intro x1 x2 w_t_boxes H locs ls hw hl hf
      rw [L_X3_becomeMade_4] at hf
      refine lv_iload_n hx hb dX3_becomeMade_4 rfl (lv_at hl 2 rfl) ?_
      refine lv_sipush (v := (240 : Int32)) hx hb dX3_becomeMade_5 (by decide) ?_
      refine lv_icmp_ge (tgt := 47) hx hb dX3_becomeMade_8 (by decide) (fun c1 => ?_) (fun c1 => ?_)
      · have hf := (if_pos c1).symm.trans hf
        exact hKx x1 w_t_boxes _ _ _ hw (lv_sub hl [1] rfl) hf
      · have hf := (if_neg c1).symm.trans hf
        refine lv_aload_n hx hb dX3_becomeMade_11 rfl (lv_at hl 0 rfl) ?_
        refine g_get (ci := 3) (C := RX3) (T := TX3) (N := 2) S hinX3 hK hw 0 0 k9 dX3_becomeMade_12 rfl rfl (by decide) rfl ?_
        refine lv_iload_n hx hb dX3_becomeMade_15 rfl (lv_at hl 2 rfl) ?_
        obtain ⟨b2, hf⟩ := ck_some hf
        refine g_iald S hK hw 1 0 b2 dX3_becomeMade_16 rfl rfl ?_
        refine lv_aload_n hx hb dX3_becomeMade_17 rfl (lv_at hl 0 rfl) ?_
        refine g_get (ci := 3) (C := RX3) (T := TX3) (N := 2) S hinX3 hK hw 0 1 k15 dX3_becomeMade_18 rfl rfl (by decide) rfl ?_
        refine lv_iload_n hx hb dX3_becomeMade_21 rfl (lv_at hl 2 rfl) ?_
        obtain ⟨b3, hf⟩ := ck_some hf
        refine g_iald S hK hw 2 0 b3 dX3_becomeMade_22 rfl rfl ?_
        refine lv_icmp_eq (tgt := 29) hx hb dX3_becomeMade_23 (by decide) (fun c4 => ?_) (fun c4 => ?_)
        · have hf := (if_pos c4).symm.trans hf
          refine lv_aload_n hx hb dX3_becomeMade_29 rfl (lv_at hl 0 rfl) ?_
          refine g_get (ci := 3) (C := RX3) (T := TX3) (N := 2) S hinX3 hK hw 0 0 k9 dX3_becomeMade_30 rfl rfl (by decide) rfl ?_
          refine lv_iload_n hx hb dX3_becomeMade_33 rfl (lv_at hl 2 rfl) ?_
          refine lv_aload_n hx hb dX3_becomeMade_34 rfl (lv_at hl 0 rfl) ?_
          refine g_get (ci := 3) (C := RX3) (T := TX3) (N := 2) S hinX3 hK hw 0 1 k15 dX3_becomeMade_35 rfl rfl (by decide) rfl ?_
          refine lv_iload_n hx hb dX3_becomeMade_38 rfl (lv_at hl 2 rfl) ?_
          obtain ⟨b5, hf⟩ := ck_some hf
          refine g_iald S hK hw 2 0 b5 dX3_becomeMade_39 rfl rfl ?_
          obtain ⟨b6, hf⟩ := ck_some hf
          refine g_iast (ws' := [(q_t, .inr (3, [.ref q_t_boxes, .ref q_t_made])), (q_t_boxes, .inl (cI, 240, .inl (upd w_t_boxes x2.toNatClampNeg (t_made x2.toNatClampNeg)))), (q_t_made, .inl (cI, 240, .inl t_made))]) S hK hw 1 0 b6 dX3_becomeMade_40 rfl rfl rfl (fun H locs hw => ?_)
          refine lv_iinc (v := (x2 + (1 : Int32))) (lv' := [(2, .int (x2 + (1 : Int32))), (0, .ref q_t), (1, .int x1)]) hx hb dX3_becomeMade_41 hl (k := 2) rfl rfl (by decide) rfl (fun ls hl => ?_)
          refine lv_goto (tgt := 4) hx hb dX3_becomeMade_44 (by decide) ?_
          exact ih x1 (x2 + (1 : Int32)) (upd w_t_boxes x2.toNatClampNeg (t_made x2.toNatClampNeg)) _ _ _ hw (lv_sub hl [1, 2, 0] rfl) hf
        · have hf := (if_neg c4).symm.trans hf
          refine lv_iinc (v := (x1 + (1 : Int32))) (lv' := [(1, .int (x1 + (1 : Int32))), (0, .ref q_t), (2, .int x2)]) hx hb dX3_becomeMade_26 hl (k := 1) rfl rfl (by decide) rfl (fun ls hl => ?_)
          refine lv_aload_n hx hb dX3_becomeMade_29 rfl (lv_at hl 1 rfl) ?_
          refine g_get (ci := 3) (C := RX3) (T := TX3) (N := 2) S hinX3 hK hw 0 0 k9 dX3_becomeMade_30 rfl rfl (by decide) rfl ?_
          refine lv_iload_n hx hb dX3_becomeMade_33 rfl (lv_at hl 2 rfl) ?_
          refine lv_aload_n hx hb dX3_becomeMade_34 rfl (lv_at hl 1 rfl) ?_
          refine g_get (ci := 3) (C := RX3) (T := TX3) (N := 2) S hinX3 hK hw 0 1 k15 dX3_becomeMade_35 rfl rfl (by decide) rfl ?_
          refine lv_iload_n hx hb dX3_becomeMade_38 rfl (lv_at hl 2 rfl) ?_
          obtain ⟨b7, hf⟩ := ck_some hf
          refine g_iald S hK hw 2 0 b7 dX3_becomeMade_39 rfl rfl ?_
          obtain ⟨b8, hf⟩ := ck_some hf
          refine g_iast (ws' := [(q_t, .inr (3, [.ref q_t_boxes, .ref q_t_made])), (q_t_boxes, .inl (cI, 240, .inl (upd w_t_boxes x2.toNatClampNeg (t_made x2.toNatClampNeg)))), (q_t_made, .inl (cI, 240, .inl t_made))]) S hK hw 1 0 b8 dX3_becomeMade_40 rfl rfl rfl (fun H locs hw => ?_)
          refine lv_iinc (v := (x2 + (1 : Int32))) (lv' := [(2, .int (x2 + (1 : Int32))), (1, .int (x1 + (1 : Int32))), (0, .ref q_t)]) hx hb dX3_becomeMade_41 hl (k := 2) rfl rfl (by decide) rfl (fun ls hl => ?_)
          refine lv_goto (tgt := 4) hx hb dX3_becomeMade_44 (by decide) ?_
          exact ih (x1 + (1 : Int32)) (x2 + (1 : Int32)) (upd w_t_boxes x2.toNatClampNeg (t_made x2.toNatClampNeg)) _ _ _ hw (lv_sub hl [2, 1, 0] rfl) hf
  unfold f_X3_becomeMade at hf
  refine lv_iconst (v := (0 : Int32)) hx hb dX3_becomeMade_0 (by decide) ?_
  refine lv_istore_n (lv' := [(1, .int (0 : Int32)), (0, .ref q_t)]) hx hb dX3_becomeMade_1 rfl hl (by decide) rfl (fun ls hl => ?_)
  refine lv_iconst (v := (0 : Int32)) hx hb dX3_becomeMade_2 (by decide) ?_
  refine lv_istore_n (lv' := [(2, .int (0 : Int32)), (1, .int (0 : Int32)), (0, .ref q_t)]) hx hb dX3_becomeMade_3 rfl hl (by decide) rfl (fun ls hl => ?_)
  refine Lp4  _ (fun y9 u10 H locs ls hw hl hf => ?_) N (0 : Int32) (0 : Int32) t_boxes _ _ _ hw (lv_sub hl [2, 1, 0] rfl) hf
  refine lv_iload_n hx hb dX3_becomeMade_47 rfl (lv_at hl 0 rfl) ?_
  obtain ⟨rfl, rfl⟩ := pr2 (Option.some.inj hf)
  exact rt_i S hr hlk hw dX3_becomeMade_48

def L_X4_begin_17 (N : Nat) (K : (Nat → Int32) → Option (Int32 × Int32 × Int32 × (Nat → Int32))) : Nat → Int32 → (Nat → Int32) → Option (Int32 × Int32 × Int32 × (Nat → Int32))
  | 0, _, _ => none
  | n + 1, x3, w_t_items => (if (100 : Int32) ≤ x3 then (K w_t_items) else (ck (inb x3 100) (L_X4_begin_17 N K n (x3 + (1 : Int32)) (upd w_t_items x3.toNatClampNeg (0 : Int32)))))

def f_X4_begin (N : Nat) (p1 : Int32) (p2 : Int32) (t_lost : Int32) (t_form : Int32) (t_size : Int32) (t_items : (Nat → Int32)) : Option (Int32 × Int32 × Int32 × (Nat → Int32)) :=
  (L_X4_begin_17 N  (fun u3 => (some ((0 : Int32), p1, p2, u3))) N (0 : Int32) t_items)

set_option maxHeartbeats 4000000 in
set_option maxRecDepth 100000 in
theorem c_X4_begin (l : Launch) (D : va_G) (cI cZ cJ cO : ClassId) (sz : Nat) (q_t q_t_items : Nat) (N : Nat) (p1 : Int32) (p2 : Int32) (t_lost : Int32) (t_form : Int32) (t_size : Int32) (t_items : (Nat → Int32)) (o_t_lost : Int32) (o_t_form : Int32) (o_t_size : Int32) (o_t_items : (Nat → Int32)) (hf : f_X4_begin N p1 p2 t_lost t_form t_size t_items = some (o_t_lost, o_t_form, o_t_size, o_t_items)) : Met l yX4_begin wsX4_begin ({ frames := 0, cells := 0, slots := 0, locals := 0 }) (PreC D (TY cI cZ cJ cO) [.ref q_t, .int p1, .int p2] [(q_t, .inr (4, [.ref q_t_items, .int t_lost, .int t_form, .int t_size])), (q_t_items, .inl (cI, 100, .inl t_items))] sz) (QcV D [(q_t, .inr (4, [.ref q_t_items, .int o_t_lost, .int o_t_form, .int o_t_size])), (q_t_items, .inl (cI, 100, .inl o_t_items))] (va_A [(q_t, .inr (4, [.ref q_t_items, .int t_lost, .int t_form, .int t_size])), (q_t_items, .inl (cI, 100, .inl t_items))] sz)) 0 0 (va_A [(q_t, .inr (4, [.ref q_t_items, .int t_lost, .int t_form, .int t_size])), (q_t_items, .inl (cI, 100, .inl t_items))] sz) := by
  refine ctr (cc := cX4_begin) (maxL := 4) (ret := none) (by decide) rfl (Nat.le_of_ble_eq_true rfl) ?_
  intro p e s m below meth c S hr hlk hnm hK hN hsz hA hw ls hl
  generalize va_A [(q_t, .inr (4, [.ref q_t_items, .int t_lost, .int t_form, .int t_size])), (q_t_items, .inl (cI, 100, .inl t_items))] sz = A at hA hw ⊢
  have S : CallFix p m c cX4_begin 4 s ([.ref q_t, .int p1, .int p2] : List Value).toArray wsX4_begin RX4 := S
  have hx := S.1
  have hb := S.2.1
  have hts := S.2.2.2.2
  have hl : lv_has ls 4 [(0, .ref q_t), (1, .int p1), (2, .int p2)] := hl
  have hinX4 : ∀ w ∈ u_ws RX4 TX4 4, w ∈ wsX4_begin := by decide +kernel
  have k9 : Cond.fieldLink RX4 9 "BallBoxes$Sheet" "items" "[I" ∈ wsX4_begin := by decide +kernel
  have k15 : Cond.fieldLink RX4 15 "BallBoxes$Sheet" "lost" "Z" ∈ wsX4_begin := by decide +kernel
  have k19 : Cond.fieldLink RX4 19 "BallBoxes$Sheet" "form" "I" ∈ wsX4_begin := by decide +kernel
  have k23 : Cond.fieldLink RX4 23 "BallBoxes$Sheet" "size" "I" ∈ wsX4_begin := by decide +kernel
  have Lp17 : ∀ (w_t_lost : Int32) (w_t_form : Int32) (w_t_size : Int32) (K : (Nat → Int32) → Option (Int32 × Int32 × Int32 × (Nat → Int32))), (∀ (z_t_items : (Nat → Int32)) (H : Heap) (locs : List Loc) (ls : Array Slot), Wd D A s.heap [(q_t, .inr (4, [.ref q_t_items, .int w_t_lost, .int w_t_form, .int w_t_size])), (q_t_items, .inl (cI, 100, .inl z_t_items))] H locs → lv_has ls 4 [] → K z_t_items = some (o_t_lost, o_t_form, o_t_size, o_t_items) → W p l e ({ frames := 0, cells := 0, slots := 0, locals := 0 } : Room) s m ([.ref q_t, .int p1, .int p2] : List Value).toArray below meth c H locs 0 0 (MQ below (QcV D [(q_t, .inr (4, [.ref q_t_items, .int o_t_lost, .int o_t_form, .int o_t_size])), (q_t_items, .inl (cI, 100, .inl o_t_items))] A) ([.ref q_t, .int p1, .int p2] : List Value).toArray s 0 0 A) (F0 m 36 ls [])) → ∀ (n : Nat) (x3 : Int32) (w_t_items : (Nat → Int32)) (H : Heap) (locs : List Loc) (ls : Array Slot), Wd D A s.heap [(q_t, .inr (4, [.ref q_t_items, .int w_t_lost, .int w_t_form, .int w_t_size])), (q_t_items, .inl (cI, 100, .inl w_t_items))] H locs → lv_has ls 4 [(0, .ref q_t), (3, .int x3)] → L_X4_begin_17 N K n x3 w_t_items = some (o_t_lost, o_t_form, o_t_size, o_t_items) → W p l e ({ frames := 0, cells := 0, slots := 0, locals := 0 } : Room) s m ([.ref q_t, .int p1, .int p2] : List Value).toArray below meth c H locs 0 0 (MQ below (QcV D [(q_t, .inr (4, [.ref q_t_items, .int o_t_lost, .int o_t_form, .int o_t_size])), (q_t_items, .inl (cI, 100, .inl o_t_items))] A) ([.ref q_t, .int p1, .int p2] : List Value).toArray s 0 0 A) (F0 m 17 ls []) := by
    intro w_t_lost w_t_form w_t_size K hKx n
    induction n with
    | zero =>
      intro x3 w_t_items H locs ls hw hl hf
      rw [L_X4_begin_17] at hf
      cases hf
    | succ n ih =>
      intro x3 w_t_items H locs ls hw hl hf
      rw [L_X4_begin_17] at hf
      refine lv_iload_n hx hb dX4_begin_17 rfl (lv_at hl 1 rfl) ?_
      refine lv_bipush (v := (100 : Int32)) hx hb dX4_begin_18 (by decide) ?_
      refine lv_icmp_ge (tgt := 36) hx hb dX4_begin_20 (by decide) (fun c1 => ?_) (fun c1 => ?_)
      · have hf := (if_pos c1).symm.trans hf
        exact hKx w_t_items _ _ _ hw (lv_sub hl [] rfl) hf
      · have hf := (if_neg c1).symm.trans hf
        refine lv_aload_n hx hb dX4_begin_23 rfl (lv_at hl 0 rfl) ?_
        refine g_get (ci := 4) (C := RX4) (T := TX4) (N := 4) S hinX4 hK hw 0 0 k9 dX4_begin_24 rfl rfl (by decide) rfl ?_
        refine lv_iload_n hx hb dX4_begin_27 rfl (lv_at hl 1 rfl) ?_
        refine lv_iconst (v := (0 : Int32)) hx hb dX4_begin_28 (by decide) ?_
        obtain ⟨b2, hf⟩ := ck_some hf
        refine g_iast (ws' := [(q_t, .inr (4, [.ref q_t_items, .int w_t_lost, .int w_t_form, .int w_t_size])), (q_t_items, .inl (cI, 100, .inl (upd w_t_items x3.toNatClampNeg (0 : Int32))))]) S hK hw 1 0 b2 dX4_begin_29 rfl rfl rfl (fun H locs hw => ?_)
        refine lv_iinc (v := (x3 + (1 : Int32))) (lv' := [(3, .int (x3 + (1 : Int32))), (0, .ref q_t)]) hx hb dX4_begin_30 hl (k := 1) rfl rfl (by decide) rfl (fun ls hl => ?_)
        refine lv_goto (tgt := 17) hx hb dX4_begin_33 (by decide) ?_
        exact ih (x3 + (1 : Int32)) (upd w_t_items x3.toNatClampNeg (0 : Int32)) _ _ _ hw (lv_sub hl [1, 0] rfl) hf
  unfold f_X4_begin at hf
  refine lv_aload_n hx hb dX4_begin_0 rfl (lv_at hl 0 rfl) ?_
  refine lv_iconst (v := (0 : Int32)) hx hb dX4_begin_1 (by decide) ?_
  refine g_put (ci := 4) (C := RX4) (T := TX4) (N := 4) (ws' := [(q_t, .inr (4, [.ref q_t_items, .int (0 : Int32), .int t_form, .int t_size])), (q_t_items, .inl (cI, 100, .inl t_items))]) S hinX4 tyX4 tyX4_ok nmX4 hK hw 0 1 k15 dX4_begin_2 rfl rfl (by decide) rfl rfl rfl (Nat.le_of_ble_eq_true rfl) rfl (fun H locs hw => ?_)
  refine lv_aload_n hx hb dX4_begin_5 rfl (lv_at hl 0 rfl) ?_
  refine lv_iload_n hx hb dX4_begin_6 rfl (lv_at hl 1 rfl) ?_
  refine g_put (ci := 4) (C := RX4) (T := TX4) (N := 4) (ws' := [(q_t, .inr (4, [.ref q_t_items, .int (0 : Int32), .int p1, .int t_size])), (q_t_items, .inl (cI, 100, .inl t_items))]) S hinX4 tyX4 tyX4_ok nmX4 hK hw 0 2 k19 dX4_begin_7 rfl rfl (by decide) rfl rfl rfl (Nat.le_of_ble_eq_true rfl) rfl (fun H locs hw => ?_)
  refine lv_aload_n hx hb dX4_begin_10 rfl (lv_at hl 0 rfl) ?_
  refine lv_iload_n hx hb dX4_begin_11 rfl (lv_at hl 2 rfl) ?_
  refine g_put (ci := 4) (C := RX4) (T := TX4) (N := 4) (ws' := [(q_t, .inr (4, [.ref q_t_items, .int (0 : Int32), .int p1, .int p2])), (q_t_items, .inl (cI, 100, .inl t_items))]) S hinX4 tyX4 tyX4_ok nmX4 hK hw 0 3 k23 dX4_begin_12 rfl rfl (by decide) rfl rfl rfl (Nat.le_of_ble_eq_true rfl) rfl (fun H locs hw => ?_)
  refine lv_iconst (v := (0 : Int32)) hx hb dX4_begin_15 (by decide) ?_
  refine lv_istore_n (lv' := [(3, .int (0 : Int32)), (0, .ref q_t), (1, .int p1), (2, .int p2)]) hx hb dX4_begin_16 rfl hl (by decide) rfl (fun ls hl => ?_)
  refine Lp17 (0 : Int32) p1 p2 _ (fun u3 H locs ls hw hl hf => ?_) N (0 : Int32) t_items _ _ _ hw (lv_sub hl [1, 0] rfl) hf
  obtain ⟨rfl, rfl, rfl, rfl⟩ := pr4 (Option.some.inj hf)
  exact rt_v S hr hlk hw dX4_begin_36

def f_X4_isItem (_ : Nat) (p1 : Int32) (t_size : Int32) : Option (Int32) :=
  (if p1 < (0 : Int32) then (some (0 : Int32)) else (if t_size ≤ p1 then (some (0 : Int32)) else (if (100 : Int32) ≤ p1 then (some (0 : Int32)) else (some (1 : Int32)))))

set_option maxHeartbeats 4000000 in
set_option maxRecDepth 100000 in
theorem c_X4_isItem (l : Launch) (D : va_G) (cI cZ cJ cO : ClassId) (sz : Nat) (q_t q_t_items : Nat) (N : Nat) (p1 : Int32) (t_lost : Int32) (t_form : Int32) (t_size : Int32) (r : Int32) (hf : f_X4_isItem N p1 t_size = some r) : Met l yX4_isItem wsX4_isItem ({ frames := 0, cells := 0, slots := 0, locals := 0 }) (PreC D (TY cI cZ cJ cO) [.ref q_t, .int p1] [(q_t, .inr (4, [.ref q_t_items, .int t_lost, .int t_form, .int t_size]))] sz) (QcI D [(q_t, .inr (4, [.ref q_t_items, .int t_lost, .int t_form, .int t_size]))] (va_A [(q_t, .inr (4, [.ref q_t_items, .int t_lost, .int t_form, .int t_size]))] sz) r) 0 0 (va_A [(q_t, .inr (4, [.ref q_t_items, .int t_lost, .int t_form, .int t_size]))] sz) := by
  refine ctr (cc := cX4_isItem) (maxL := 2) (ret := (some .boolean)) (by decide) rfl (Nat.le_of_ble_eq_true rfl) ?_
  intro p e s m below meth c S hr hlk hnm hK hN hsz hA hw ls hl
  generalize va_A [(q_t, .inr (4, [.ref q_t_items, .int t_lost, .int t_form, .int t_size]))] sz = A at hA hw ⊢
  have S : CallFix p m c cX4_isItem 2 s ([.ref q_t, .int p1] : List Value).toArray wsX4_isItem RX4 := S
  have hx := S.1
  have hb := S.2.1
  have hts := S.2.2.2.2
  have hl : lv_has ls 2 [(0, .ref q_t), (1, .int p1)] := hl
  have hinX4 : ∀ w ∈ u_ws RX4 TX4 4, w ∈ wsX4_isItem := by decide +kernel
  have k23 : Cond.fieldLink RX4 23 "BallBoxes$Sheet" "size" "I" ∈ wsX4_isItem := by decide +kernel
  unfold f_X4_isItem at hf
  refine lv_iload_n hx hb dX4_isItem_0 rfl (lv_at hl 1 rfl) ?_
  refine lv_if_lt (tgt := 22) hx hb dX4_isItem_1 (by decide) (fun c1 => ?_) (fun c1 => ?_)
  · have hf := (if_pos c1).symm.trans hf
    refine lv_iconst (v := (0 : Int32)) hx hb dX4_isItem_22 (by decide) ?_
    obtain rfl := Option.some.inj hf
    exact rt_z S hr hlk hw dX4_isItem_23 rfl
  · have hf := (if_neg c1).symm.trans hf
    refine lv_iload_n hx hb dX4_isItem_4 rfl (lv_at hl 1 rfl) ?_
    refine lv_aload_n hx hb dX4_isItem_5 rfl (lv_at hl 0 rfl) ?_
    refine g_get (ci := 4) (C := RX4) (T := TX4) (N := 4) S hinX4 hK hw 0 3 k23 dX4_isItem_6 rfl rfl (by decide) rfl ?_
    refine lv_icmp_ge (tgt := 22) hx hb dX4_isItem_9 (by decide) (fun c2 => ?_) (fun c2 => ?_)
    · have hf := (if_pos c2).symm.trans hf
      refine lv_iconst (v := (0 : Int32)) hx hb dX4_isItem_22 (by decide) ?_
      obtain rfl := Option.some.inj hf
      exact rt_z S hr hlk hw dX4_isItem_23 rfl
    · have hf := (if_neg c2).symm.trans hf
      refine lv_iload_n hx hb dX4_isItem_12 rfl (lv_at hl 1 rfl) ?_
      refine lv_bipush (v := (100 : Int32)) hx hb dX4_isItem_13 (by decide) ?_
      refine lv_icmp_ge (tgt := 22) hx hb dX4_isItem_15 (by decide) (fun c3 => ?_) (fun c3 => ?_)
      · have hf := (if_pos c3).symm.trans hf
        refine lv_iconst (v := (0 : Int32)) hx hb dX4_isItem_22 (by decide) ?_
        obtain rfl := Option.some.inj hf
        exact rt_z S hr hlk hw dX4_isItem_23 rfl
      · have hf := (if_neg c3).symm.trans hf
        refine lv_iconst (v := (1 : Int32)) hx hb dX4_isItem_18 (by decide) ?_
        refine lv_goto (tgt := 23) hx hb dX4_isItem_19 (by decide) ?_
        obtain rfl := Option.some.inj hf
        exact rt_z S hr hlk hw dX4_isItem_23 rfl

def f_X4_findingAt (N : Nat) (p1 : Int32) (p2 : Int32) (t_lost : Int32) (t_form : Int32) (t_size : Int32) : Option (Int32) :=
  (if t_lost = (0 : Int32) then (if t_form = p1 then (bd1 (f_X4_isItem N p2 t_size) (fun r3 => (if r3 = (0 : Int32) then (some (2 : Int32)) else (some (0 : Int32))))) else (some (3 : Int32))) else (some (1 : Int32)))

set_option maxHeartbeats 4000000 in
set_option maxRecDepth 100000 in
theorem c_X4_findingAt (l : Launch) (D : va_G) (cI cZ cJ cO : ClassId) (sz : Nat) (q_t q_t_items : Nat) (N : Nat) (p1 : Int32) (p2 : Int32) (t_lost : Int32) (t_form : Int32) (t_size : Int32) (r : Int32) (hf : f_X4_findingAt N p1 p2 t_lost t_form t_size = some r) : Met l yX4_findingAt wsX4_findingAt ({ frames := 1, cells := 0, slots := 0, locals := 21 }) (PreC D (TY cI cZ cJ cO) [.ref q_t, .int p1, .int p2] [(q_t, .inr (4, [.ref q_t_items, .int t_lost, .int t_form, .int t_size]))] sz) (QcI D [(q_t, .inr (4, [.ref q_t_items, .int t_lost, .int t_form, .int t_size]))] (va_A [(q_t, .inr (4, [.ref q_t_items, .int t_lost, .int t_form, .int t_size]))] sz) r) 0 0 (va_A [(q_t, .inr (4, [.ref q_t_items, .int t_lost, .int t_form, .int t_size]))] sz) := by
  refine ctr (cc := cX4_findingAt) (maxL := 3) (ret := (some .int)) (by decide) rfl (Nat.le_of_ble_eq_true rfl) ?_
  intro p e s m below meth c S hr hlk hnm hK hN hsz hA hw ls hl
  generalize va_A [(q_t, .inr (4, [.ref q_t_items, .int t_lost, .int t_form, .int t_size]))] sz = A at hA hw ⊢
  have S : CallFix p m c cX4_findingAt 3 s ([.ref q_t, .int p1, .int p2] : List Value).toArray wsX4_findingAt RX4 := S
  have hx := S.1
  have hb := S.2.1
  have hts := S.2.2.2.2
  have hl : lv_has ls 3 [(0, .ref q_t), (1, .int p1), (2, .int p2)] := hl
  have hinX4 : ∀ w ∈ u_ws RX4 TX4 4, w ∈ wsX4_findingAt := by decide +kernel
  have k15 : Cond.fieldLink RX4 15 "BallBoxes$Sheet" "lost" "Z" ∈ wsX4_findingAt := by decide +kernel
  have k19 : Cond.fieldLink RX4 19 "BallBoxes$Sheet" "form" "I" ∈ wsX4_findingAt := by decide +kernel
  unfold f_X4_findingAt at hf
  refine lv_aload_n hx hb dX4_findingAt_0 rfl (lv_at hl 0 rfl) ?_
  refine g_get (ci := 4) (C := RX4) (T := TX4) (N := 4) S hinX4 hK hw 0 1 k15 dX4_findingAt_1 rfl rfl (by decide) rfl ?_
  refine lv_if_eq (tgt := 9) hx hb dX4_findingAt_4 (by decide) (fun c1 => ?_) (fun c1 => ?_)
  · have hf := (if_pos c1).symm.trans hf
    refine lv_aload_n hx hb dX4_findingAt_9 rfl (lv_at hl 0 rfl) ?_
    refine g_get (ci := 4) (C := RX4) (T := TX4) (N := 4) S hinX4 hK hw 0 2 k19 dX4_findingAt_10 rfl rfl (by decide) rfl ?_
    refine lv_iload_n hx hb dX4_findingAt_13 rfl (lv_at hl 1 rfl) ?_
    refine lv_icmp_eq (tgt := 19) hx hb dX4_findingAt_14 (by decide) (fun c2 => ?_) (fun c2 => ?_)
    · have hf := (if_pos c2).symm.trans hf
      refine lv_aload_n hx hb dX4_findingAt_19 rfl (lv_at hl 0 rfl) ?_
      refine lv_iload_n hx hb dX4_findingAt_20 rfl (lv_at hl 2 rfl) ?_
      obtain ⟨r3, h4, hf⟩ := bd1_some hf
      refine cl_i (wr := []) (ws' := [(q_t, .inr (4, [.ref q_t_items, .int t_lost, .int t_form, .int t_size]))]) hA hw [0] [] [0] rfl rfl rfl (by decide) rfl rfl (va_runV (As := [.int p2]) (rest := []) S (c_X4_isItem l D cI cZ cJ cO _ q_t q_t_items N p2 t_lost t_form t_size r3 h4) (cwV 1 hts gX4_findingAt_X4_isItem rfl rfl rfl (by decide +kernel) ⟨Nat.le_of_ble_eq_true rfl, Nat.le_of_ble_eq_true rfl⟩) (pre_V hK hN hw [0] rfl rfl (C := RX4) (T := TX4) (N := 4) (ci := 4) (q0 := 0) rfl rfl) rfl rfl hl.1 rfl (lv_room (Nat.le_of_ble_eq_true rfl)) dX4_findingAt_21 ⟨Nat.zero_le _, Nat.zero_le _⟩) (fun H locs hw => ?_)
      refine lv_if_eq (tgt := 31) hx hb dX4_findingAt_24 (by decide) (fun c5 => ?_) (fun c5 => ?_)
      · have hf := (if_pos c5).symm.trans hf
        refine lv_iconst (v := (2 : Int32)) hx hb dX4_findingAt_31 (by decide) ?_
        obtain rfl := Option.some.inj hf
        exact rt_i S hr hlk hw dX4_findingAt_32
      · have hf := (if_neg c5).symm.trans hf
        refine lv_iconst (v := (0 : Int32)) hx hb dX4_findingAt_27 (by decide) ?_
        refine lv_goto (tgt := 32) hx hb dX4_findingAt_28 (by decide) ?_
        obtain rfl := Option.some.inj hf
        exact rt_i S hr hlk hw dX4_findingAt_32
    · have hf := (if_neg c2).symm.trans hf
      refine lv_iconst (v := (3 : Int32)) hx hb dX4_findingAt_17 (by decide) ?_
      obtain rfl := Option.some.inj hf
      exact rt_i S hr hlk hw dX4_findingAt_18
  · have hf := (if_neg c1).symm.trans hf
    refine lv_iconst (v := (1 : Int32)) hx hb dX4_findingAt_7 (by decide) ?_
    obtain rfl := Option.some.inj hf
    exact rt_i S hr hlk hw dX4_findingAt_8

def f_X4_hasItems (_ : Nat) (p1 : Int32) (p2 : Int32) (t_size : Int32) : Option (Int32) :=
  (if p1 < (0 : Int32) then (some (0 : Int32)) else (if p2 < (0 : Int32) then (some (0 : Int32)) else (if t_size < p1 then (some (0 : Int32)) else (if (t_size - p1) < p2 then (some (0 : Int32)) else (some (1 : Int32))))))

set_option maxHeartbeats 4000000 in
set_option maxRecDepth 100000 in
theorem c_X4_hasItems (l : Launch) (D : va_G) (cI cZ cJ cO : ClassId) (sz : Nat) (q_t q_t_items : Nat) (N : Nat) (p1 : Int32) (p2 : Int32) (t_lost : Int32) (t_form : Int32) (t_size : Int32) (r : Int32) (hf : f_X4_hasItems N p1 p2 t_size = some r) : Met l yX4_hasItems wsX4_hasItems ({ frames := 0, cells := 0, slots := 0, locals := 0 }) (PreC D (TY cI cZ cJ cO) [.ref q_t, .int p1, .int p2] [(q_t, .inr (4, [.ref q_t_items, .int t_lost, .int t_form, .int t_size]))] sz) (QcI D [(q_t, .inr (4, [.ref q_t_items, .int t_lost, .int t_form, .int t_size]))] (va_A [(q_t, .inr (4, [.ref q_t_items, .int t_lost, .int t_form, .int t_size]))] sz) r) 0 0 (va_A [(q_t, .inr (4, [.ref q_t_items, .int t_lost, .int t_form, .int t_size]))] sz) := by
  refine ctr (cc := cX4_hasItems) (maxL := 3) (ret := (some .boolean)) (by decide) rfl (Nat.le_of_ble_eq_true rfl) ?_
  intro p e s m below meth c S hr hlk hnm hK hN hsz hA hw ls hl
  generalize va_A [(q_t, .inr (4, [.ref q_t_items, .int t_lost, .int t_form, .int t_size]))] sz = A at hA hw ⊢
  have S : CallFix p m c cX4_hasItems 3 s ([.ref q_t, .int p1, .int p2] : List Value).toArray wsX4_hasItems RX4 := S
  have hx := S.1
  have hb := S.2.1
  have hts := S.2.2.2.2
  have hl : lv_has ls 3 [(0, .ref q_t), (1, .int p1), (2, .int p2)] := hl
  have hinX4 : ∀ w ∈ u_ws RX4 TX4 4, w ∈ wsX4_hasItems := by decide +kernel
  have k23 : Cond.fieldLink RX4 23 "BallBoxes$Sheet" "size" "I" ∈ wsX4_hasItems := by decide +kernel
  unfold f_X4_hasItems at hf
  refine lv_iload_n hx hb dX4_hasItems_0 rfl (lv_at hl 1 rfl) ?_
  refine lv_if_lt (tgt := 30) hx hb dX4_hasItems_1 (by decide) (fun c1 => ?_) (fun c1 => ?_)
  · have hf := (if_pos c1).symm.trans hf
    refine lv_iconst (v := (0 : Int32)) hx hb dX4_hasItems_30 (by decide) ?_
    obtain rfl := Option.some.inj hf
    exact rt_z S hr hlk hw dX4_hasItems_31 rfl
  · have hf := (if_neg c1).symm.trans hf
    refine lv_iload_n hx hb dX4_hasItems_4 rfl (lv_at hl 2 rfl) ?_
    refine lv_if_lt (tgt := 30) hx hb dX4_hasItems_5 (by decide) (fun c2 => ?_) (fun c2 => ?_)
    · have hf := (if_pos c2).symm.trans hf
      refine lv_iconst (v := (0 : Int32)) hx hb dX4_hasItems_30 (by decide) ?_
      obtain rfl := Option.some.inj hf
      exact rt_z S hr hlk hw dX4_hasItems_31 rfl
    · have hf := (if_neg c2).symm.trans hf
      refine lv_iload_n hx hb dX4_hasItems_8 rfl (lv_at hl 1 rfl) ?_
      refine lv_aload_n hx hb dX4_hasItems_9 rfl (lv_at hl 0 rfl) ?_
      refine g_get (ci := 4) (C := RX4) (T := TX4) (N := 4) S hinX4 hK hw 0 3 k23 dX4_hasItems_10 rfl rfl (by decide) rfl ?_
      refine lv_icmp_gt (tgt := 30) hx hb dX4_hasItems_13 (by decide) (fun c3 => ?_) (fun c3 => ?_)
      · have hf := (if_pos c3).symm.trans hf
        refine lv_iconst (v := (0 : Int32)) hx hb dX4_hasItems_30 (by decide) ?_
        obtain rfl := Option.some.inj hf
        exact rt_z S hr hlk hw dX4_hasItems_31 rfl
      · have hf := (if_neg c3).symm.trans hf
        refine lv_iload_n hx hb dX4_hasItems_16 rfl (lv_at hl 2 rfl) ?_
        refine lv_aload_n hx hb dX4_hasItems_17 rfl (lv_at hl 0 rfl) ?_
        refine g_get (ci := 4) (C := RX4) (T := TX4) (N := 4) S hinX4 hK hw 0 3 k23 dX4_hasItems_18 rfl rfl (by decide) rfl ?_
        refine lv_iload_n hx hb dX4_hasItems_21 rfl (lv_at hl 1 rfl) ?_
        refine lv_isub hx hb dX4_hasItems_22 ?_
        refine lv_icmp_gt (tgt := 30) hx hb dX4_hasItems_23 (by decide) (fun c4 => ?_) (fun c4 => ?_)
        · have hf := (if_pos c4).symm.trans hf
          refine lv_iconst (v := (0 : Int32)) hx hb dX4_hasItems_30 (by decide) ?_
          obtain rfl := Option.some.inj hf
          exact rt_z S hr hlk hw dX4_hasItems_31 rfl
        · have hf := (if_neg c4).symm.trans hf
          refine lv_iconst (v := (1 : Int32)) hx hb dX4_hasItems_26 (by decide) ?_
          refine lv_goto (tgt := 31) hx hb dX4_hasItems_27 (by decide) ?_
          obtain rfl := Option.some.inj hf
          exact rt_z S hr hlk hw dX4_hasItems_31 rfl

def f_X4_itemAt (N : Nat) (p1 : Int32) (t_size : Int32) (t_items : (Nat → Int32)) : Option (Int32) :=
  (bd1 (f_X4_isItem N p1 t_size) (fun r1 => (if r1 = (0 : Int32) then (some (0 : Int32)) else (ck (inb p1 100) (some (t_items p1.toNatClampNeg))))))

set_option maxHeartbeats 4000000 in
set_option maxRecDepth 100000 in
theorem c_X4_itemAt (l : Launch) (D : va_G) (cI cZ cJ cO : ClassId) (sz : Nat) (q_t q_t_items : Nat) (N : Nat) (p1 : Int32) (t_lost : Int32) (t_form : Int32) (t_size : Int32) (t_items : (Nat → Int32)) (r : Int32) (hf : f_X4_itemAt N p1 t_size t_items = some r) : Met l yX4_itemAt wsX4_itemAt ({ frames := 1, cells := 0, slots := 0, locals := 21 }) (PreC D (TY cI cZ cJ cO) [.ref q_t, .int p1] [(q_t, .inr (4, [.ref q_t_items, .int t_lost, .int t_form, .int t_size])), (q_t_items, .inl (cI, 100, .inl t_items))] sz) (QcI D [(q_t, .inr (4, [.ref q_t_items, .int t_lost, .int t_form, .int t_size])), (q_t_items, .inl (cI, 100, .inl t_items))] (va_A [(q_t, .inr (4, [.ref q_t_items, .int t_lost, .int t_form, .int t_size])), (q_t_items, .inl (cI, 100, .inl t_items))] sz) r) 0 0 (va_A [(q_t, .inr (4, [.ref q_t_items, .int t_lost, .int t_form, .int t_size])), (q_t_items, .inl (cI, 100, .inl t_items))] sz) := by
  refine ctr (cc := cX4_itemAt) (maxL := 2) (ret := (some .int)) (by decide) rfl (Nat.le_of_ble_eq_true rfl) ?_
  intro p e s m below meth c S hr hlk hnm hK hN hsz hA hw ls hl
  generalize va_A [(q_t, .inr (4, [.ref q_t_items, .int t_lost, .int t_form, .int t_size])), (q_t_items, .inl (cI, 100, .inl t_items))] sz = A at hA hw ⊢
  have S : CallFix p m c cX4_itemAt 2 s ([.ref q_t, .int p1] : List Value).toArray wsX4_itemAt RX4 := S
  have hx := S.1
  have hb := S.2.1
  have hts := S.2.2.2.2
  have hl : lv_has ls 2 [(0, .ref q_t), (1, .int p1)] := hl
  have hinX4 : ∀ w ∈ u_ws RX4 TX4 4, w ∈ wsX4_itemAt := by decide +kernel
  have k9 : Cond.fieldLink RX4 9 "BallBoxes$Sheet" "items" "[I" ∈ wsX4_itemAt := by decide +kernel
  unfold f_X4_itemAt at hf
  refine lv_aload_n hx hb dX4_itemAt_0 rfl (lv_at hl 0 rfl) ?_
  refine lv_iload_n hx hb dX4_itemAt_1 rfl (lv_at hl 1 rfl) ?_
  obtain ⟨r1, h2, hf⟩ := bd1_some hf
  refine cl_i (wr := [(q_t_items, .inl (cI, 100, .inl t_items))]) (ws' := [(q_t, .inr (4, [.ref q_t_items, .int t_lost, .int t_form, .int t_size])), (q_t_items, .inl (cI, 100, .inl t_items))]) hA hw [0] [1] [1, 0] rfl rfl rfl (by decide) rfl rfl (va_runV (As := [.int p1]) (rest := []) S (c_X4_isItem l D cI cZ cJ cO _ q_t q_t_items N p1 t_lost t_form t_size r1 h2) (cwV 1 hts gX4_itemAt_X4_isItem rfl rfl rfl (by decide +kernel) ⟨Nat.le_of_ble_eq_true rfl, Nat.le_of_ble_eq_true rfl⟩) (pre_V hK hN hw [0] rfl rfl (C := RX4) (T := TX4) (N := 4) (ci := 4) (q0 := 0) rfl rfl) rfl rfl hl.1 rfl (lv_room (Nat.le_of_ble_eq_true rfl)) dX4_itemAt_2 ⟨Nat.zero_le _, Nat.zero_le _⟩) (fun H locs hw => ?_)
  refine lv_if_eq (tgt := 17) hx hb dX4_itemAt_5 (by decide) (fun c3 => ?_) (fun c3 => ?_)
  · have hf := (if_pos c3).symm.trans hf
    refine lv_iconst (v := (0 : Int32)) hx hb dX4_itemAt_17 (by decide) ?_
    obtain rfl := Option.some.inj hf
    exact rt_i S hr hlk hw dX4_itemAt_18
  · have hf := (if_neg c3).symm.trans hf
    refine lv_aload_n hx hb dX4_itemAt_8 rfl (lv_at hl 0 rfl) ?_
    refine g_get (ci := 4) (C := RX4) (T := TX4) (N := 4) S hinX4 hK hw 0 0 k9 dX4_itemAt_9 rfl rfl (by decide) rfl ?_
    refine lv_iload_n hx hb dX4_itemAt_12 rfl (lv_at hl 1 rfl) ?_
    obtain ⟨b4, hf⟩ := ck_some hf
    refine g_iald S hK hw 1 0 b4 dX4_itemAt_13 rfl rfl ?_
    refine lv_goto (tgt := 18) hx hb dX4_itemAt_14 (by decide) ?_
    obtain rfl := Option.some.inj hf
    exact rt_i S hr hlk hw dX4_itemAt_18

def f_X4_cut (_ : Nat) (p1 : Int32) (t_form : Int32) : Option (Int32) :=
  (if t_form = (0 : Int32) then (some p1.toInt8.toInt32) else (if t_form = (1 : Int32) then (some p1.toInt16.toInt32) else (some p1)))

set_option maxHeartbeats 4000000 in
set_option maxRecDepth 100000 in
theorem c_X4_cut (l : Launch) (D : va_G) (cI cZ cJ cO : ClassId) (sz : Nat) (q_t q_t_items : Nat) (N : Nat) (p1 : Int32) (t_lost : Int32) (t_form : Int32) (t_size : Int32) (r : Int32) (hf : f_X4_cut N p1 t_form = some r) : Met l yX4_cut wsX4_cut ({ frames := 0, cells := 0, slots := 0, locals := 0 }) (PreC D (TY cI cZ cJ cO) [.ref q_t, .int p1] [(q_t, .inr (4, [.ref q_t_items, .int t_lost, .int t_form, .int t_size]))] sz) (QcI D [(q_t, .inr (4, [.ref q_t_items, .int t_lost, .int t_form, .int t_size]))] (va_A [(q_t, .inr (4, [.ref q_t_items, .int t_lost, .int t_form, .int t_size]))] sz) r) 0 0 (va_A [(q_t, .inr (4, [.ref q_t_items, .int t_lost, .int t_form, .int t_size]))] sz) := by
  refine ctr (cc := cX4_cut) (maxL := 2) (ret := (some .int)) (by decide) rfl (Nat.le_of_ble_eq_true rfl) ?_
  intro p e s m below meth c S hr hlk hnm hK hN hsz hA hw ls hl
  generalize va_A [(q_t, .inr (4, [.ref q_t_items, .int t_lost, .int t_form, .int t_size]))] sz = A at hA hw ⊢
  have S : CallFix p m c cX4_cut 2 s ([.ref q_t, .int p1] : List Value).toArray wsX4_cut RX4 := S
  have hx := S.1
  have hb := S.2.1
  have hts := S.2.2.2.2
  have hl : lv_has ls 2 [(0, .ref q_t), (1, .int p1)] := hl
  have hinX4 : ∀ w ∈ u_ws RX4 TX4 4, w ∈ wsX4_cut := by decide +kernel
  have k19 : Cond.fieldLink RX4 19 "BallBoxes$Sheet" "form" "I" ∈ wsX4_cut := by decide +kernel
  unfold f_X4_cut at hf
  refine lv_aload_n hx hb dX4_cut_0 rfl (lv_at hl 0 rfl) ?_
  refine g_get (ci := 4) (C := RX4) (T := TX4) (N := 4) S hinX4 hK hw 0 2 k19 dX4_cut_1 rfl rfl (by decide) rfl ?_
  refine lv_if_ne (tgt := 10) hx hb dX4_cut_4 (by decide) (fun c1 => ?_) (fun c1 => ?_)
  · have hf := (if_neg c1).symm.trans hf
    refine lv_aload_n hx hb dX4_cut_10 rfl (lv_at hl 0 rfl) ?_
    refine g_get (ci := 4) (C := RX4) (T := TX4) (N := 4) S hinX4 hK hw 0 2 k19 dX4_cut_11 rfl rfl (by decide) rfl ?_
    refine lv_iconst (v := (1 : Int32)) hx hb dX4_cut_14 (by decide) ?_
    refine lv_icmp_ne (tgt := 23) hx hb dX4_cut_15 (by decide) (fun c2 => ?_) (fun c2 => ?_)
    · have hf := (if_neg c2).symm.trans hf
      refine lv_iload_n hx hb dX4_cut_23 rfl (lv_at hl 1 rfl) ?_
      obtain rfl := Option.some.inj hf
      exact rt_i S hr hlk hw dX4_cut_24
    · have hf := (if_pos c2).symm.trans hf
      refine lv_iload_n hx hb dX4_cut_18 rfl (lv_at hl 1 rfl) ?_
      refine lv_i2s (v := p1.toInt16.toInt32) hx hb dX4_cut_19 rfl ?_
      refine lv_goto (tgt := 24) hx hb dX4_cut_20 (by decide) ?_
      obtain rfl := Option.some.inj hf
      exact rt_i S hr hlk hw dX4_cut_24
  · have hf := (if_pos c1).symm.trans hf
    refine lv_iload_n hx hb dX4_cut_7 rfl (lv_at hl 1 rfl) ?_
    refine lv_i2b (v := p1.toInt8.toInt32) hx hb dX4_cut_8 rfl ?_
    obtain rfl := Option.some.inj hf
    exact rt_i S hr hlk hw dX4_cut_9

def f_X4_place (N : Nat) (p1 : Int32) (p2 : Int32) (t_form : Int32) (t_size : Int32) (t_items : (Nat → Int32)) : Option ((Nat → Int32)) :=
  (bd1 (f_X4_isItem N p1 t_size) (fun r1 => (if r1 = (0 : Int32) then (some t_items) else (bd1 (f_X4_cut N p2 t_form) (fun r4 => (ck (inb p1 100) (some (upd t_items p1.toNatClampNeg r4))))))))

set_option maxHeartbeats 4000000 in
set_option maxRecDepth 100000 in
theorem c_X4_place (l : Launch) (D : va_G) (cI cZ cJ cO : ClassId) (sz : Nat) (q_t q_t_items : Nat) (N : Nat) (p1 : Int32) (p2 : Int32) (t_lost : Int32) (t_form : Int32) (t_size : Int32) (t_items : (Nat → Int32)) (o_t_items : (Nat → Int32)) (hf : f_X4_place N p1 p2 t_form t_size t_items = some o_t_items) : Met l yX4_place wsX4_place ({ frames := 1, cells := 0, slots := 0, locals := 21 }) (PreC D (TY cI cZ cJ cO) [.ref q_t, .int p1, .int p2] [(q_t, .inr (4, [.ref q_t_items, .int t_lost, .int t_form, .int t_size])), (q_t_items, .inl (cI, 100, .inl t_items))] sz) (QcV D [(q_t, .inr (4, [.ref q_t_items, .int t_lost, .int t_form, .int t_size])), (q_t_items, .inl (cI, 100, .inl o_t_items))] (va_A [(q_t, .inr (4, [.ref q_t_items, .int t_lost, .int t_form, .int t_size])), (q_t_items, .inl (cI, 100, .inl t_items))] sz)) 0 0 (va_A [(q_t, .inr (4, [.ref q_t_items, .int t_lost, .int t_form, .int t_size])), (q_t_items, .inl (cI, 100, .inl t_items))] sz) := by
  refine ctr (cc := cX4_place) (maxL := 3) (ret := none) (by decide) rfl (Nat.le_of_ble_eq_true rfl) ?_
  intro p e s m below meth c S hr hlk hnm hK hN hsz hA hw ls hl
  generalize va_A [(q_t, .inr (4, [.ref q_t_items, .int t_lost, .int t_form, .int t_size])), (q_t_items, .inl (cI, 100, .inl t_items))] sz = A at hA hw ⊢
  have S : CallFix p m c cX4_place 3 s ([.ref q_t, .int p1, .int p2] : List Value).toArray wsX4_place RX4 := S
  have hx := S.1
  have hb := S.2.1
  have hts := S.2.2.2.2
  have hl : lv_has ls 3 [(0, .ref q_t), (1, .int p1), (2, .int p2)] := hl
  have hinX4 : ∀ w ∈ u_ws RX4 TX4 4, w ∈ wsX4_place := by decide +kernel
  have k9 : Cond.fieldLink RX4 9 "BallBoxes$Sheet" "items" "[I" ∈ wsX4_place := by decide +kernel
  unfold f_X4_place at hf
  refine lv_aload_n hx hb dX4_place_0 rfl (lv_at hl 0 rfl) ?_
  refine lv_iload_n hx hb dX4_place_1 rfl (lv_at hl 1 rfl) ?_
  obtain ⟨r1, h2, hf⟩ := bd1_some hf
  refine cl_i (wr := [(q_t_items, .inl (cI, 100, .inl t_items))]) (ws' := [(q_t, .inr (4, [.ref q_t_items, .int t_lost, .int t_form, .int t_size])), (q_t_items, .inl (cI, 100, .inl t_items))]) hA hw [0] [1] [1, 0] rfl rfl rfl (by decide) rfl rfl (va_runV (As := [.int p1]) (rest := []) S (c_X4_isItem l D cI cZ cJ cO _ q_t q_t_items N p1 t_lost t_form t_size r1 h2) (cwV 1 hts gX4_place_X4_isItem rfl rfl rfl (by decide +kernel) ⟨Nat.le_of_ble_eq_true rfl, Nat.le_of_ble_eq_true rfl⟩) (pre_V hK hN hw [0] rfl rfl (C := RX4) (T := TX4) (N := 4) (ci := 4) (q0 := 0) rfl rfl) rfl rfl hl.1 rfl (lv_room (Nat.le_of_ble_eq_true rfl)) dX4_place_2 ⟨Nat.zero_le _, Nat.zero_le _⟩) (fun H locs hw => ?_)
  refine lv_if_eq (tgt := 19) hx hb dX4_place_5 (by decide) (fun c3 => ?_) (fun c3 => ?_)
  · have hf := (if_pos c3).symm.trans hf
    obtain rfl := Option.some.inj hf
    exact rt_v S hr hlk hw dX4_place_19
  · have hf := (if_neg c3).symm.trans hf
    refine lv_aload_n hx hb dX4_place_8 rfl (lv_at hl 0 rfl) ?_
    refine g_get (ci := 4) (C := RX4) (T := TX4) (N := 4) S hinX4 hK hw 0 0 k9 dX4_place_9 rfl rfl (by decide) rfl ?_
    refine lv_iload_n hx hb dX4_place_12 rfl (lv_at hl 1 rfl) ?_
    refine lv_aload_n hx hb dX4_place_13 rfl (lv_at hl 0 rfl) ?_
    refine lv_iload_n hx hb dX4_place_14 rfl (lv_at hl 2 rfl) ?_
    obtain ⟨r4, h5, hf⟩ := bd1_some hf
    refine cl_i (wr := [(q_t_items, .inl (cI, 100, .inl t_items))]) (ws' := [(q_t, .inr (4, [.ref q_t_items, .int t_lost, .int t_form, .int t_size])), (q_t_items, .inl (cI, 100, .inl t_items))]) hA hw [0] [1] [1, 0] rfl rfl rfl (by decide) rfl rfl (va_runV (As := [.int p2]) (rest := [.int p1, .ref q_t_items]) S (c_X4_cut l D cI cZ cJ cO _ q_t q_t_items N p2 t_lost t_form t_size r4 h5) (cwV 1 hts gX4_place_X4_cut rfl rfl rfl (by decide +kernel) ⟨Nat.le_of_ble_eq_true rfl, Nat.le_of_ble_eq_true rfl⟩) (pre_V hK hN hw [0] rfl rfl (C := RX4) (T := TX4) (N := 4) (ci := 4) (q0 := 0) rfl rfl) rfl rfl hl.1 rfl (lv_room (Nat.le_of_ble_eq_true rfl)) dX4_place_15 ⟨Nat.zero_le _, Nat.zero_le _⟩) (fun H locs hw => ?_)
    obtain ⟨b6, hf⟩ := ck_some hf
    refine g_iast (ws' := [(q_t, .inr (4, [.ref q_t_items, .int t_lost, .int t_form, .int t_size])), (q_t_items, .inl (cI, 100, .inl (upd t_items p1.toNatClampNeg r4)))]) S hK hw 1 0 b6 dX4_place_18 rfl rfl rfl (fun H locs hw => ?_)
    obtain rfl := Option.some.inj hf
    exact rt_v S hr hlk hw dX4_place_19

def f_X5_isString (_ : Nat) (p1 : Int32) (t_size : Int32) : Option (Int32) :=
  (if p1 < (0 : Int32) then (some (0 : Int32)) else (if t_size ≤ p1 then (some (0 : Int32)) else (if (240 : Int32) ≤ p1 then (some (0 : Int32)) else (some (1 : Int32)))))

set_option maxHeartbeats 4000000 in
set_option maxRecDepth 100000 in
theorem c_X5_isString (l : Launch) (D : va_G) (cI cZ cJ cO : ClassId) (sz : Nat) (q_t q_t_lengths q_t_riggings q_t_lesserSums : Nat) (N : Nat) (p1 : Int32) (t_size : Int32) (t_boxesRead : Int32) (r : Int32) (hf : f_X5_isString N p1 t_size = some r) : Met l yX5_isString wsX5_isString ({ frames := 0, cells := 0, slots := 0, locals := 0 }) (PreC D (TY cI cZ cJ cO) [.ref q_t, .int p1] [(q_t, .inr (5, [.ref q_t_lengths, .ref q_t_riggings, .ref q_t_lesserSums, .int t_size, .int t_boxesRead]))] sz) (QcI D [(q_t, .inr (5, [.ref q_t_lengths, .ref q_t_riggings, .ref q_t_lesserSums, .int t_size, .int t_boxesRead]))] (va_A [(q_t, .inr (5, [.ref q_t_lengths, .ref q_t_riggings, .ref q_t_lesserSums, .int t_size, .int t_boxesRead]))] sz) r) 0 0 (va_A [(q_t, .inr (5, [.ref q_t_lengths, .ref q_t_riggings, .ref q_t_lesserSums, .int t_size, .int t_boxesRead]))] sz) := by
  refine ctr (cc := cX5_isString) (maxL := 2) (ret := (some .boolean)) (by decide) rfl (Nat.le_of_ble_eq_true rfl) ?_
  intro p e s m below meth c S hr hlk hnm hK hN hsz hA hw ls hl
  generalize va_A [(q_t, .inr (5, [.ref q_t_lengths, .ref q_t_riggings, .ref q_t_lesserSums, .int t_size, .int t_boxesRead]))] sz = A at hA hw ⊢
  have S : CallFix p m c cX5_isString 2 s ([.ref q_t, .int p1] : List Value).toArray wsX5_isString RX5 := S
  have hx := S.1
  have hb := S.2.1
  have hts := S.2.2.2.2
  have hl : lv_has ls 2 [(0, .ref q_t), (1, .int p1)] := hl
  have hinX5 : ∀ w ∈ u_ws RX5 TX5 5, w ∈ wsX5_isString := by decide +kernel
  have k21 : Cond.fieldLink RX5 21 "BallBoxes$Strings" "size" "I" ∈ wsX5_isString := by decide +kernel
  unfold f_X5_isString at hf
  refine lv_iload_n hx hb dX5_isString_0 rfl (lv_at hl 1 rfl) ?_
  refine lv_if_lt (tgt := 23) hx hb dX5_isString_1 (by decide) (fun c1 => ?_) (fun c1 => ?_)
  · have hf := (if_pos c1).symm.trans hf
    refine lv_iconst (v := (0 : Int32)) hx hb dX5_isString_23 (by decide) ?_
    obtain rfl := Option.some.inj hf
    exact rt_z S hr hlk hw dX5_isString_24 rfl
  · have hf := (if_neg c1).symm.trans hf
    refine lv_iload_n hx hb dX5_isString_4 rfl (lv_at hl 1 rfl) ?_
    refine lv_aload_n hx hb dX5_isString_5 rfl (lv_at hl 0 rfl) ?_
    refine g_get (ci := 5) (C := RX5) (T := TX5) (N := 5) S hinX5 hK hw 0 3 k21 dX5_isString_6 rfl rfl (by decide) rfl ?_
    refine lv_icmp_ge (tgt := 23) hx hb dX5_isString_9 (by decide) (fun c2 => ?_) (fun c2 => ?_)
    · have hf := (if_pos c2).symm.trans hf
      refine lv_iconst (v := (0 : Int32)) hx hb dX5_isString_23 (by decide) ?_
      obtain rfl := Option.some.inj hf
      exact rt_z S hr hlk hw dX5_isString_24 rfl
    · have hf := (if_neg c2).symm.trans hf
      refine lv_iload_n hx hb dX5_isString_12 rfl (lv_at hl 1 rfl) ?_
      refine lv_sipush (v := (240 : Int32)) hx hb dX5_isString_13 (by decide) ?_
      refine lv_icmp_ge (tgt := 23) hx hb dX5_isString_16 (by decide) (fun c3 => ?_) (fun c3 => ?_)
      · have hf := (if_pos c3).symm.trans hf
        refine lv_iconst (v := (0 : Int32)) hx hb dX5_isString_23 (by decide) ?_
        obtain rfl := Option.some.inj hf
        exact rt_z S hr hlk hw dX5_isString_24 rfl
      · have hf := (if_neg c3).symm.trans hf
        refine lv_iconst (v := (1 : Int32)) hx hb dX5_isString_19 (by decide) ?_
        refine lv_goto (tgt := 24) hx hb dX5_isString_20 (by decide) ?_
        obtain rfl := Option.some.inj hf
        exact rt_z S hr hlk hw dX5_isString_24 rfl

def f_X5_lengthOf (N : Nat) (p1 : Int32) (t_size : Int32) (t_lengths : (Nat → Int32)) : Option (Int32) :=
  (bd1 (f_X5_isString N p1 t_size) (fun r1 => (if r1 = (0 : Int32) then (some (0 : Int32)) else (ck (inb p1 240) (some (t_lengths p1.toNatClampNeg))))))

set_option maxHeartbeats 4000000 in
set_option maxRecDepth 100000 in
theorem c_X5_lengthOf (l : Launch) (D : va_G) (cI cZ cJ cO : ClassId) (sz : Nat) (q_t q_t_lengths q_t_riggings q_t_lesserSums : Nat) (N : Nat) (p1 : Int32) (t_size : Int32) (t_boxesRead : Int32) (t_lengths : (Nat → Int32)) (r : Int32) (hf : f_X5_lengthOf N p1 t_size t_lengths = some r) : Met l yX5_lengthOf wsX5_lengthOf ({ frames := 1, cells := 0, slots := 0, locals := 21 }) (PreC D (TY cI cZ cJ cO) [.ref q_t, .int p1] [(q_t, .inr (5, [.ref q_t_lengths, .ref q_t_riggings, .ref q_t_lesserSums, .int t_size, .int t_boxesRead])), (q_t_lengths, .inl (cI, 240, .inl t_lengths))] sz) (QcI D [(q_t, .inr (5, [.ref q_t_lengths, .ref q_t_riggings, .ref q_t_lesserSums, .int t_size, .int t_boxesRead])), (q_t_lengths, .inl (cI, 240, .inl t_lengths))] (va_A [(q_t, .inr (5, [.ref q_t_lengths, .ref q_t_riggings, .ref q_t_lesserSums, .int t_size, .int t_boxesRead])), (q_t_lengths, .inl (cI, 240, .inl t_lengths))] sz) r) 0 0 (va_A [(q_t, .inr (5, [.ref q_t_lengths, .ref q_t_riggings, .ref q_t_lesserSums, .int t_size, .int t_boxesRead])), (q_t_lengths, .inl (cI, 240, .inl t_lengths))] sz) := by
  refine ctr (cc := cX5_lengthOf) (maxL := 2) (ret := (some .int)) (by decide) rfl (Nat.le_of_ble_eq_true rfl) ?_
  intro p e s m below meth c S hr hlk hnm hK hN hsz hA hw ls hl
  generalize va_A [(q_t, .inr (5, [.ref q_t_lengths, .ref q_t_riggings, .ref q_t_lesserSums, .int t_size, .int t_boxesRead])), (q_t_lengths, .inl (cI, 240, .inl t_lengths))] sz = A at hA hw ⊢
  have S : CallFix p m c cX5_lengthOf 2 s ([.ref q_t, .int p1] : List Value).toArray wsX5_lengthOf RX5 := S
  have hx := S.1
  have hb := S.2.1
  have hts := S.2.2.2.2
  have hl : lv_has ls 2 [(0, .ref q_t), (1, .int p1)] := hl
  have hinX5 : ∀ w ∈ u_ws RX5 TX5 5, w ∈ wsX5_lengthOf := by decide +kernel
  have k9 : Cond.fieldLink RX5 9 "BallBoxes$Strings" "lengths" "[I" ∈ wsX5_lengthOf := by decide +kernel
  unfold f_X5_lengthOf at hf
  refine lv_aload_n hx hb dX5_lengthOf_0 rfl (lv_at hl 0 rfl) ?_
  refine lv_iload_n hx hb dX5_lengthOf_1 rfl (lv_at hl 1 rfl) ?_
  obtain ⟨r1, h2, hf⟩ := bd1_some hf
  refine cl_i (wr := [(q_t_lengths, .inl (cI, 240, .inl t_lengths))]) (ws' := [(q_t, .inr (5, [.ref q_t_lengths, .ref q_t_riggings, .ref q_t_lesserSums, .int t_size, .int t_boxesRead])), (q_t_lengths, .inl (cI, 240, .inl t_lengths))]) hA hw [0] [1] [1, 0] rfl rfl rfl (by decide) rfl rfl (va_runV (As := [.int p1]) (rest := []) S (c_X5_isString l D cI cZ cJ cO _ q_t q_t_lengths q_t_riggings q_t_lesserSums N p1 t_size t_boxesRead r1 h2) (cwV 1 hts gX5_lengthOf_X5_isString rfl rfl rfl (by decide +kernel) ⟨Nat.le_of_ble_eq_true rfl, Nat.le_of_ble_eq_true rfl⟩) (pre_V hK hN hw [0] rfl rfl (C := RX5) (T := TX5) (N := 5) (ci := 5) (q0 := 0) rfl rfl) rfl rfl hl.1 rfl (lv_room (Nat.le_of_ble_eq_true rfl)) dX5_lengthOf_2 ⟨Nat.zero_le _, Nat.zero_le _⟩) (fun H locs hw => ?_)
  refine lv_if_eq (tgt := 17) hx hb dX5_lengthOf_5 (by decide) (fun c3 => ?_) (fun c3 => ?_)
  · have hf := (if_pos c3).symm.trans hf
    refine lv_iconst (v := (0 : Int32)) hx hb dX5_lengthOf_17 (by decide) ?_
    obtain rfl := Option.some.inj hf
    exact rt_i S hr hlk hw dX5_lengthOf_18
  · have hf := (if_neg c3).symm.trans hf
    refine lv_aload_n hx hb dX5_lengthOf_8 rfl (lv_at hl 0 rfl) ?_
    refine g_get (ci := 5) (C := RX5) (T := TX5) (N := 5) S hinX5 hK hw 0 0 k9 dX5_lengthOf_9 rfl rfl (by decide) rfl ?_
    refine lv_iload_n hx hb dX5_lengthOf_12 rfl (lv_at hl 1 rfl) ?_
    obtain ⟨b4, hf⟩ := ck_some hf
    refine g_iald S hK hw 1 0 b4 dX5_lengthOf_13 rfl rfl ?_
    refine lv_goto (tgt := 18) hx hb dX5_lengthOf_14 (by decide) ?_
    obtain rfl := Option.some.inj hf
    exact rt_i S hr hlk hw dX5_lengthOf_18

def f_X5_riggingOf (N : Nat) (p1 : Int32) (t_size : Int32) (t_riggings : (Nat → Int32)) : Option (Int32) :=
  (bd1 (f_X5_isString N p1 t_size) (fun r1 => (if r1 = (0 : Int32) then (some (0 : Int32)) else (ck (inb p1 240) (some (t_riggings p1.toNatClampNeg))))))

set_option maxHeartbeats 4000000 in
set_option maxRecDepth 100000 in
theorem c_X5_riggingOf (l : Launch) (D : va_G) (cI cZ cJ cO : ClassId) (sz : Nat) (q_t q_t_lengths q_t_riggings q_t_lesserSums : Nat) (N : Nat) (p1 : Int32) (t_size : Int32) (t_boxesRead : Int32) (t_riggings : (Nat → Int32)) (r : Int32) (hf : f_X5_riggingOf N p1 t_size t_riggings = some r) : Met l yX5_riggingOf wsX5_riggingOf ({ frames := 1, cells := 0, slots := 0, locals := 21 }) (PreC D (TY cI cZ cJ cO) [.ref q_t, .int p1] [(q_t, .inr (5, [.ref q_t_lengths, .ref q_t_riggings, .ref q_t_lesserSums, .int t_size, .int t_boxesRead])), (q_t_riggings, .inl (cI, 240, .inl t_riggings))] sz) (QcI D [(q_t, .inr (5, [.ref q_t_lengths, .ref q_t_riggings, .ref q_t_lesserSums, .int t_size, .int t_boxesRead])), (q_t_riggings, .inl (cI, 240, .inl t_riggings))] (va_A [(q_t, .inr (5, [.ref q_t_lengths, .ref q_t_riggings, .ref q_t_lesserSums, .int t_size, .int t_boxesRead])), (q_t_riggings, .inl (cI, 240, .inl t_riggings))] sz) r) 0 0 (va_A [(q_t, .inr (5, [.ref q_t_lengths, .ref q_t_riggings, .ref q_t_lesserSums, .int t_size, .int t_boxesRead])), (q_t_riggings, .inl (cI, 240, .inl t_riggings))] sz) := by
  refine ctr (cc := cX5_riggingOf) (maxL := 2) (ret := (some .int)) (by decide) rfl (Nat.le_of_ble_eq_true rfl) ?_
  intro p e s m below meth c S hr hlk hnm hK hN hsz hA hw ls hl
  generalize va_A [(q_t, .inr (5, [.ref q_t_lengths, .ref q_t_riggings, .ref q_t_lesserSums, .int t_size, .int t_boxesRead])), (q_t_riggings, .inl (cI, 240, .inl t_riggings))] sz = A at hA hw ⊢
  have S : CallFix p m c cX5_riggingOf 2 s ([.ref q_t, .int p1] : List Value).toArray wsX5_riggingOf RX5 := S
  have hx := S.1
  have hb := S.2.1
  have hts := S.2.2.2.2
  have hl : lv_has ls 2 [(0, .ref q_t), (1, .int p1)] := hl
  have hinX5 : ∀ w ∈ u_ws RX5 TX5 5, w ∈ wsX5_riggingOf := by decide +kernel
  have k15 : Cond.fieldLink RX5 15 "BallBoxes$Strings" "riggings" "[I" ∈ wsX5_riggingOf := by decide +kernel
  unfold f_X5_riggingOf at hf
  refine lv_aload_n hx hb dX5_riggingOf_0 rfl (lv_at hl 0 rfl) ?_
  refine lv_iload_n hx hb dX5_riggingOf_1 rfl (lv_at hl 1 rfl) ?_
  obtain ⟨r1, h2, hf⟩ := bd1_some hf
  refine cl_i (wr := [(q_t_riggings, .inl (cI, 240, .inl t_riggings))]) (ws' := [(q_t, .inr (5, [.ref q_t_lengths, .ref q_t_riggings, .ref q_t_lesserSums, .int t_size, .int t_boxesRead])), (q_t_riggings, .inl (cI, 240, .inl t_riggings))]) hA hw [0] [1] [1, 0] rfl rfl rfl (by decide) rfl rfl (va_runV (As := [.int p1]) (rest := []) S (c_X5_isString l D cI cZ cJ cO _ q_t q_t_lengths q_t_riggings q_t_lesserSums N p1 t_size t_boxesRead r1 h2) (cwV 1 hts gX5_riggingOf_X5_isString rfl rfl rfl (by decide +kernel) ⟨Nat.le_of_ble_eq_true rfl, Nat.le_of_ble_eq_true rfl⟩) (pre_V hK hN hw [0] rfl rfl (C := RX5) (T := TX5) (N := 5) (ci := 5) (q0 := 0) rfl rfl) rfl rfl hl.1 rfl (lv_room (Nat.le_of_ble_eq_true rfl)) dX5_riggingOf_2 ⟨Nat.zero_le _, Nat.zero_le _⟩) (fun H locs hw => ?_)
  refine lv_if_eq (tgt := 17) hx hb dX5_riggingOf_5 (by decide) (fun c3 => ?_) (fun c3 => ?_)
  · have hf := (if_pos c3).symm.trans hf
    refine lv_iconst (v := (0 : Int32)) hx hb dX5_riggingOf_17 (by decide) ?_
    obtain rfl := Option.some.inj hf
    exact rt_i S hr hlk hw dX5_riggingOf_18
  · have hf := (if_neg c3).symm.trans hf
    refine lv_aload_n hx hb dX5_riggingOf_8 rfl (lv_at hl 0 rfl) ?_
    refine g_get (ci := 5) (C := RX5) (T := TX5) (N := 5) S hinX5 hK hw 0 1 k15 dX5_riggingOf_9 rfl rfl (by decide) rfl ?_
    refine lv_iload_n hx hb dX5_riggingOf_12 rfl (lv_at hl 1 rfl) ?_
    obtain ⟨b4, hf⟩ := ck_some hf
    refine g_iald S hK hw 1 0 b4 dX5_riggingOf_13 rfl rfl ?_
    refine lv_goto (tgt := 18) hx hb dX5_riggingOf_14 (by decide) ?_
    obtain rfl := Option.some.inj hf
    exact rt_i S hr hlk hw dX5_riggingOf_18

def f_X5_roomLeft (_ : Nat) (p1 : Int32) (p2 : Int32) (t_lesserSums : (Nat → Int32)) : Option (Int32) :=
  (if p1 < (0 : Int32) then (some (0 : Int32)) else (if p1 ≤ (240 : Int32) then (ck (inb p1 241) (some (p2 - ((2 : Int32) * (t_lesserSums p1.toNatClampNeg))))) else (some (0 : Int32))))

set_option maxHeartbeats 4000000 in
set_option maxRecDepth 100000 in
theorem c_X5_roomLeft (l : Launch) (D : va_G) (cI cZ cJ cO : ClassId) (sz : Nat) (q_t q_t_lengths q_t_riggings q_t_lesserSums : Nat) (N : Nat) (p1 : Int32) (p2 : Int32) (t_size : Int32) (t_boxesRead : Int32) (t_lesserSums : (Nat → Int32)) (r : Int32) (hf : f_X5_roomLeft N p1 p2 t_lesserSums = some r) : Met l yX5_roomLeft wsX5_roomLeft ({ frames := 0, cells := 0, slots := 0, locals := 0 }) (PreC D (TY cI cZ cJ cO) [.ref q_t, .int p1, .int p2] [(q_t, .inr (5, [.ref q_t_lengths, .ref q_t_riggings, .ref q_t_lesserSums, .int t_size, .int t_boxesRead])), (q_t_lesserSums, .inl (cI, 241, .inl t_lesserSums))] sz) (QcI D [(q_t, .inr (5, [.ref q_t_lengths, .ref q_t_riggings, .ref q_t_lesserSums, .int t_size, .int t_boxesRead])), (q_t_lesserSums, .inl (cI, 241, .inl t_lesserSums))] (va_A [(q_t, .inr (5, [.ref q_t_lengths, .ref q_t_riggings, .ref q_t_lesserSums, .int t_size, .int t_boxesRead])), (q_t_lesserSums, .inl (cI, 241, .inl t_lesserSums))] sz) r) 0 0 (va_A [(q_t, .inr (5, [.ref q_t_lengths, .ref q_t_riggings, .ref q_t_lesserSums, .int t_size, .int t_boxesRead])), (q_t_lesserSums, .inl (cI, 241, .inl t_lesserSums))] sz) := by
  refine ctr (cc := cX5_roomLeft) (maxL := 3) (ret := (some .int)) (by decide) rfl (Nat.le_of_ble_eq_true rfl) ?_
  intro p e s m below meth c S hr hlk hnm hK hN hsz hA hw ls hl
  generalize va_A [(q_t, .inr (5, [.ref q_t_lengths, .ref q_t_riggings, .ref q_t_lesserSums, .int t_size, .int t_boxesRead])), (q_t_lesserSums, .inl (cI, 241, .inl t_lesserSums))] sz = A at hA hw ⊢
  have S : CallFix p m c cX5_roomLeft 3 s ([.ref q_t, .int p1, .int p2] : List Value).toArray wsX5_roomLeft RX5 := S
  have hx := S.1
  have hb := S.2.1
  have hts := S.2.2.2.2
  have hl : lv_has ls 3 [(0, .ref q_t), (1, .int p1), (2, .int p2)] := hl
  have hinX5 : ∀ w ∈ u_ws RX5 TX5 5, w ∈ wsX5_roomLeft := by decide +kernel
  have k18 : Cond.fieldLink RX5 18 "BallBoxes$Strings" "lesserSums" "[I" ∈ wsX5_roomLeft := by decide +kernel
  unfold f_X5_roomLeft at hf
  refine lv_iload_n hx hb dX5_roomLeft_0 rfl (lv_at hl 1 rfl) ?_
  refine lv_if_lt (tgt := 11) hx hb dX5_roomLeft_1 (by decide) (fun c1 => ?_) (fun c1 => ?_)
  · have hf := (if_pos c1).symm.trans hf
    refine lv_iconst (v := (0 : Int32)) hx hb dX5_roomLeft_11 (by decide) ?_
    obtain rfl := Option.some.inj hf
    exact rt_i S hr hlk hw dX5_roomLeft_12
  · have hf := (if_neg c1).symm.trans hf
    refine lv_iload_n hx hb dX5_roomLeft_4 rfl (lv_at hl 1 rfl) ?_
    refine lv_sipush (v := (240 : Int32)) hx hb dX5_roomLeft_5 (by decide) ?_
    refine lv_icmp_le (tgt := 13) hx hb dX5_roomLeft_8 (by decide) (fun c2 => ?_) (fun c2 => ?_)
    · have hf := (if_pos c2).symm.trans hf
      refine lv_iload_n hx hb dX5_roomLeft_13 rfl (lv_at hl 2 rfl) ?_
      refine lv_iconst (v := (2 : Int32)) hx hb dX5_roomLeft_14 (by decide) ?_
      refine lv_aload_n hx hb dX5_roomLeft_15 rfl (lv_at hl 0 rfl) ?_
      refine g_get (ci := 5) (C := RX5) (T := TX5) (N := 5) S hinX5 hK hw 0 2 k18 dX5_roomLeft_16 rfl rfl (by decide) rfl ?_
      refine lv_iload_n hx hb dX5_roomLeft_19 rfl (lv_at hl 1 rfl) ?_
      obtain ⟨b3, hf⟩ := ck_some hf
      refine g_iald S hK hw 1 0 b3 dX5_roomLeft_20 rfl rfl ?_
      refine lv_imul hx hb dX5_roomLeft_21 ?_
      refine lv_isub hx hb dX5_roomLeft_22 ?_
      obtain rfl := Option.some.inj hf
      exact rt_i S hr hlk hw dX5_roomLeft_23
    · have hf := (if_neg c2).symm.trans hf
      refine lv_iconst (v := (0 : Int32)) hx hb dX5_roomLeft_11 (by decide) ?_
      obtain rfl := Option.some.inj hf
      exact rt_i S hr hlk hw dX5_roomLeft_12

def L_X5_clear_7 (N : Nat) (K : (Nat → Int32) → Option (Int32 × (Nat → Int32))) : Nat → Int32 → (Nat → Int32) → Option (Int32 × (Nat → Int32))
  | 0, _, _ => none
  | n + 1, x1, w_t_lesserSums => (if (240 : Int32) < x1 then (K w_t_lesserSums) else (ck (inb x1 241) (L_X5_clear_7 N K n (x1 + (1 : Int32)) (upd w_t_lesserSums x1.toNatClampNeg (0 : Int32)))))

def f_X5_clear (N : Nat)  (t_size : Int32) (t_lesserSums : (Nat → Int32)) : Option (Int32 × (Nat → Int32)) :=
  (L_X5_clear_7 N  (fun u3 => (some ((0 : Int32), u3))) N (0 : Int32) t_lesserSums)

set_option maxHeartbeats 4000000 in
set_option maxRecDepth 100000 in
theorem c_X5_clear (l : Launch) (D : va_G) (cI cZ cJ cO : ClassId) (sz : Nat) (q_t q_t_lengths q_t_riggings q_t_lesserSums : Nat) (N : Nat)  (t_size : Int32) (t_boxesRead : Int32) (t_lesserSums : (Nat → Int32)) (o_t_size : Int32) (o_t_lesserSums : (Nat → Int32)) (hf : f_X5_clear N t_size t_lesserSums = some (o_t_size, o_t_lesserSums)) : Met l yX5_clear wsX5_clear ({ frames := 0, cells := 0, slots := 0, locals := 0 }) (PreC D (TY cI cZ cJ cO) [.ref q_t] [(q_t, .inr (5, [.ref q_t_lengths, .ref q_t_riggings, .ref q_t_lesserSums, .int t_size, .int t_boxesRead])), (q_t_lesserSums, .inl (cI, 241, .inl t_lesserSums))] sz) (QcV D [(q_t, .inr (5, [.ref q_t_lengths, .ref q_t_riggings, .ref q_t_lesserSums, .int o_t_size, .int t_boxesRead])), (q_t_lesserSums, .inl (cI, 241, .inl o_t_lesserSums))] (va_A [(q_t, .inr (5, [.ref q_t_lengths, .ref q_t_riggings, .ref q_t_lesserSums, .int t_size, .int t_boxesRead])), (q_t_lesserSums, .inl (cI, 241, .inl t_lesserSums))] sz)) 0 0 (va_A [(q_t, .inr (5, [.ref q_t_lengths, .ref q_t_riggings, .ref q_t_lesserSums, .int t_size, .int t_boxesRead])), (q_t_lesserSums, .inl (cI, 241, .inl t_lesserSums))] sz) := by
  refine ctr (cc := cX5_clear) (maxL := 2) (ret := none) (by decide) rfl (Nat.le_of_ble_eq_true rfl) ?_
  intro p e s m below meth c S hr hlk hnm hK hN hsz hA hw ls hl
  generalize va_A [(q_t, .inr (5, [.ref q_t_lengths, .ref q_t_riggings, .ref q_t_lesserSums, .int t_size, .int t_boxesRead])), (q_t_lesserSums, .inl (cI, 241, .inl t_lesserSums))] sz = A at hA hw ⊢
  have S : CallFix p m c cX5_clear 2 s ([.ref q_t] : List Value).toArray wsX5_clear RX5 := S
  have hx := S.1
  have hb := S.2.1
  have hts := S.2.2.2.2
  have hl : lv_has ls 2 [(0, .ref q_t)] := hl
  have hinX5 : ∀ w ∈ u_ws RX5 TX5 5, w ∈ wsX5_clear := by decide +kernel
  have k18 : Cond.fieldLink RX5 18 "BallBoxes$Strings" "lesserSums" "[I" ∈ wsX5_clear := by decide +kernel
  have k21 : Cond.fieldLink RX5 21 "BallBoxes$Strings" "size" "I" ∈ wsX5_clear := by decide +kernel
  have Lp7 : ∀ (w_t_size : Int32) (K : (Nat → Int32) → Option (Int32 × (Nat → Int32))), (∀ (z_t_lesserSums : (Nat → Int32)) (H : Heap) (locs : List Loc) (ls : Array Slot), Wd D A s.heap [(q_t, .inr (5, [.ref q_t_lengths, .ref q_t_riggings, .ref q_t_lesserSums, .int w_t_size, .int t_boxesRead])), (q_t_lesserSums, .inl (cI, 241, .inl z_t_lesserSums))] H locs → lv_has ls 2 [] → K z_t_lesserSums = some (o_t_size, o_t_lesserSums) → W p l e ({ frames := 0, cells := 0, slots := 0, locals := 0 } : Room) s m ([.ref q_t] : List Value).toArray below meth c H locs 0 0 (MQ below (QcV D [(q_t, .inr (5, [.ref q_t_lengths, .ref q_t_riggings, .ref q_t_lesserSums, .int o_t_size, .int t_boxesRead])), (q_t_lesserSums, .inl (cI, 241, .inl o_t_lesserSums))] A) ([.ref q_t] : List Value).toArray s 0 0 A) (F0 m 27 ls [])) → ∀ (n : Nat) (x1 : Int32) (w_t_lesserSums : (Nat → Int32)) (H : Heap) (locs : List Loc) (ls : Array Slot), Wd D A s.heap [(q_t, .inr (5, [.ref q_t_lengths, .ref q_t_riggings, .ref q_t_lesserSums, .int w_t_size, .int t_boxesRead])), (q_t_lesserSums, .inl (cI, 241, .inl w_t_lesserSums))] H locs → lv_has ls 2 [(0, .ref q_t), (1, .int x1)] → L_X5_clear_7 N K n x1 w_t_lesserSums = some (o_t_size, o_t_lesserSums) → W p l e ({ frames := 0, cells := 0, slots := 0, locals := 0 } : Room) s m ([.ref q_t] : List Value).toArray below meth c H locs 0 0 (MQ below (QcV D [(q_t, .inr (5, [.ref q_t_lengths, .ref q_t_riggings, .ref q_t_lesserSums, .int o_t_size, .int t_boxesRead])), (q_t_lesserSums, .inl (cI, 241, .inl o_t_lesserSums))] A) ([.ref q_t] : List Value).toArray s 0 0 A) (F0 m 7 ls []) := by
    intro w_t_size K hKx n
    induction n with
    | zero =>
      intro x1 w_t_lesserSums H locs ls hw hl hf
      rw [L_X5_clear_7] at hf
      cases hf
    | succ n ih =>
      intro x1 w_t_lesserSums H locs ls hw hl hf
      rw [L_X5_clear_7] at hf
      refine lv_iload_n hx hb dX5_clear_7 rfl (lv_at hl 1 rfl) ?_
      refine lv_sipush (v := (240 : Int32)) hx hb dX5_clear_8 (by decide) ?_
      refine lv_icmp_gt (tgt := 27) hx hb dX5_clear_11 (by decide) (fun c1 => ?_) (fun c1 => ?_)
      · have hf := (if_pos c1).symm.trans hf
        exact hKx w_t_lesserSums _ _ _ hw (lv_sub hl [] rfl) hf
      · have hf := (if_neg c1).symm.trans hf
        refine lv_aload_n hx hb dX5_clear_14 rfl (lv_at hl 0 rfl) ?_
        refine g_get (ci := 5) (C := RX5) (T := TX5) (N := 5) S hinX5 hK hw 0 2 k18 dX5_clear_15 rfl rfl (by decide) rfl ?_
        refine lv_iload_n hx hb dX5_clear_18 rfl (lv_at hl 1 rfl) ?_
        refine lv_iconst (v := (0 : Int32)) hx hb dX5_clear_19 (by decide) ?_
        obtain ⟨b2, hf⟩ := ck_some hf
        refine g_iast (ws' := [(q_t, .inr (5, [.ref q_t_lengths, .ref q_t_riggings, .ref q_t_lesserSums, .int w_t_size, .int t_boxesRead])), (q_t_lesserSums, .inl (cI, 241, .inl (upd w_t_lesserSums x1.toNatClampNeg (0 : Int32))))]) S hK hw 1 0 b2 dX5_clear_20 rfl rfl rfl (fun H locs hw => ?_)
        refine lv_iinc (v := (x1 + (1 : Int32))) (lv' := [(1, .int (x1 + (1 : Int32))), (0, .ref q_t)]) hx hb dX5_clear_21 hl (k := 1) rfl rfl (by decide) rfl (fun ls hl => ?_)
        refine lv_goto (tgt := 7) hx hb dX5_clear_24 (by decide) ?_
        exact ih (x1 + (1 : Int32)) (upd w_t_lesserSums x1.toNatClampNeg (0 : Int32)) _ _ _ hw (lv_sub hl [1, 0] rfl) hf
  unfold f_X5_clear at hf
  refine lv_aload_n hx hb dX5_clear_0 rfl (lv_at hl 0 rfl) ?_
  refine lv_iconst (v := (0 : Int32)) hx hb dX5_clear_1 (by decide) ?_
  refine g_put (ci := 5) (C := RX5) (T := TX5) (N := 5) (ws' := [(q_t, .inr (5, [.ref q_t_lengths, .ref q_t_riggings, .ref q_t_lesserSums, .int (0 : Int32), .int t_boxesRead])), (q_t_lesserSums, .inl (cI, 241, .inl t_lesserSums))]) S hinX5 tyX5 tyX5_ok nmX5 hK hw 0 3 k21 dX5_clear_2 rfl rfl (by decide) rfl rfl rfl (Nat.le_of_ble_eq_true rfl) rfl (fun H locs hw => ?_)
  refine lv_iconst (v := (0 : Int32)) hx hb dX5_clear_5 (by decide) ?_
  refine lv_istore_n (lv' := [(1, .int (0 : Int32)), (0, .ref q_t)]) hx hb dX5_clear_6 rfl hl (by decide) rfl (fun ls hl => ?_)
  refine Lp7 (0 : Int32) _ (fun u3 H locs ls hw hl hf => ?_) N (0 : Int32) t_lesserSums _ _ _ hw (lv_sub hl [1, 0] rfl) hf
  obtain ⟨rfl, rfl⟩ := pr2 (Option.some.inj hf)
  exact rt_v S hr hlk hw dX5_clear_27

def f_X5_addString (_ : Nat)  (t_size : Int32) (t_lengths : (Nat → Int32)) : Option (Int32 × Int32 × (Nat → Int32)) :=
  (if t_size < (240 : Int32) then (ck (inb t_size 240) (some (((t_size + (1 : Int32)) - (1 : Int32)), (t_size + (1 : Int32)), (upd t_lengths t_size.toNatClampNeg (0 : Int32))))) else (some ((-1 : Int32), t_size, t_lengths)))

set_option maxHeartbeats 4000000 in
set_option maxRecDepth 100000 in
theorem c_X5_addString (l : Launch) (D : va_G) (cI cZ cJ cO : ClassId) (sz : Nat) (q_t q_t_lengths q_t_riggings q_t_lesserSums : Nat) (N : Nat)  (t_size : Int32) (t_boxesRead : Int32) (t_lengths : (Nat → Int32)) (r : Int32) (o_t_size : Int32) (o_t_lengths : (Nat → Int32)) (hf : f_X5_addString N t_size t_lengths = some (r, o_t_size, o_t_lengths)) : Met l yX5_addString wsX5_addString ({ frames := 0, cells := 0, slots := 0, locals := 0 }) (PreC D (TY cI cZ cJ cO) [.ref q_t] [(q_t, .inr (5, [.ref q_t_lengths, .ref q_t_riggings, .ref q_t_lesserSums, .int t_size, .int t_boxesRead])), (q_t_lengths, .inl (cI, 240, .inl t_lengths))] sz) (QcI D [(q_t, .inr (5, [.ref q_t_lengths, .ref q_t_riggings, .ref q_t_lesserSums, .int o_t_size, .int t_boxesRead])), (q_t_lengths, .inl (cI, 240, .inl o_t_lengths))] (va_A [(q_t, .inr (5, [.ref q_t_lengths, .ref q_t_riggings, .ref q_t_lesserSums, .int t_size, .int t_boxesRead])), (q_t_lengths, .inl (cI, 240, .inl t_lengths))] sz) r) 0 0 (va_A [(q_t, .inr (5, [.ref q_t_lengths, .ref q_t_riggings, .ref q_t_lesserSums, .int t_size, .int t_boxesRead])), (q_t_lengths, .inl (cI, 240, .inl t_lengths))] sz) := by
  refine ctr (cc := cX5_addString) (maxL := 1) (ret := (some .int)) (by decide) rfl (Nat.le_of_ble_eq_true rfl) ?_
  intro p e s m below meth c S hr hlk hnm hK hN hsz hA hw ls hl
  generalize va_A [(q_t, .inr (5, [.ref q_t_lengths, .ref q_t_riggings, .ref q_t_lesserSums, .int t_size, .int t_boxesRead])), (q_t_lengths, .inl (cI, 240, .inl t_lengths))] sz = A at hA hw ⊢
  have S : CallFix p m c cX5_addString 1 s ([.ref q_t] : List Value).toArray wsX5_addString RX5 := S
  have hx := S.1
  have hb := S.2.1
  have hts := S.2.2.2.2
  have hl : lv_has ls 1 [(0, .ref q_t)] := hl
  have hinX5 : ∀ w ∈ u_ws RX5 TX5 5, w ∈ wsX5_addString := by decide +kernel
  have k9 : Cond.fieldLink RX5 9 "BallBoxes$Strings" "lengths" "[I" ∈ wsX5_addString := by decide +kernel
  have k21 : Cond.fieldLink RX5 21 "BallBoxes$Strings" "size" "I" ∈ wsX5_addString := by decide +kernel
  unfold f_X5_addString at hf
  refine lv_aload_n hx hb dX5_addString_0 rfl (lv_at hl 0 rfl) ?_
  refine g_get (ci := 5) (C := RX5) (T := TX5) (N := 5) S hinX5 hK hw 0 3 k21 dX5_addString_1 rfl rfl (by decide) rfl ?_
  refine lv_sipush (v := (240 : Int32)) hx hb dX5_addString_4 (by decide) ?_
  refine lv_icmp_lt (tgt := 12) hx hb dX5_addString_7 (by decide) (fun c1 => ?_) (fun c1 => ?_)
  · have hf := (if_pos c1).symm.trans hf
    refine lv_aload_n hx hb dX5_addString_12 rfl (lv_at hl 0 rfl) ?_
    refine g_get (ci := 5) (C := RX5) (T := TX5) (N := 5) S hinX5 hK hw 0 0 k9 dX5_addString_13 rfl rfl (by decide) rfl ?_
    refine lv_aload_n hx hb dX5_addString_16 rfl (lv_at hl 0 rfl) ?_
    refine g_get (ci := 5) (C := RX5) (T := TX5) (N := 5) S hinX5 hK hw 0 3 k21 dX5_addString_17 rfl rfl (by decide) rfl ?_
    refine lv_iconst (v := (0 : Int32)) hx hb dX5_addString_20 (by decide) ?_
    obtain ⟨b2, hf⟩ := ck_some hf
    refine g_iast (ws' := [(q_t, .inr (5, [.ref q_t_lengths, .ref q_t_riggings, .ref q_t_lesserSums, .int t_size, .int t_boxesRead])), (q_t_lengths, .inl (cI, 240, .inl (upd t_lengths t_size.toNatClampNeg (0 : Int32))))]) S hK hw 1 0 b2 dX5_addString_21 rfl rfl rfl (fun H locs hw => ?_)
    refine lv_aload_n hx hb dX5_addString_22 rfl (lv_at hl 0 rfl) ?_
    refine lv_dup hx hb dX5_addString_23 rfl ?_
    refine g_get (ci := 5) (C := RX5) (T := TX5) (N := 5) S hinX5 hK hw 0 3 k21 dX5_addString_24 rfl rfl (by decide) rfl ?_
    refine lv_iconst (v := (1 : Int32)) hx hb dX5_addString_27 (by decide) ?_
    refine lv_iadd hx hb dX5_addString_28 ?_
    refine g_put (ci := 5) (C := RX5) (T := TX5) (N := 5) (ws' := [(q_t, .inr (5, [.ref q_t_lengths, .ref q_t_riggings, .ref q_t_lesserSums, .int (t_size + (1 : Int32)), .int t_boxesRead])), (q_t_lengths, .inl (cI, 240, .inl (upd t_lengths t_size.toNatClampNeg (0 : Int32))))]) S hinX5 tyX5 tyX5_ok nmX5 hK hw 0 3 k21 dX5_addString_29 rfl rfl (by decide) rfl rfl rfl (Nat.le_of_ble_eq_true rfl) rfl (fun H locs hw => ?_)
    refine lv_aload_n hx hb dX5_addString_32 rfl (lv_at hl 0 rfl) ?_
    refine g_get (ci := 5) (C := RX5) (T := TX5) (N := 5) S hinX5 hK hw 0 3 k21 dX5_addString_33 rfl rfl (by decide) rfl ?_
    refine lv_iconst (v := (1 : Int32)) hx hb dX5_addString_36 (by decide) ?_
    refine lv_isub hx hb dX5_addString_37 ?_
    obtain ⟨rfl, rfl, rfl⟩ := pr3 (Option.some.inj hf)
    exact rt_i S hr hlk hw dX5_addString_38
  · have hf := (if_neg c1).symm.trans hf
    refine lv_iconst (v := (-1 : Int32)) hx hb dX5_addString_10 (by decide) ?_
    obtain ⟨rfl, rfl, rfl⟩ := pr3 (Option.some.inj hf)
    exact rt_i S hr hlk hw dX5_addString_11

def L_X5_addToSums_6 (N : Nat) (x2 : Int32) (K : (Nat → Int32) → Option ((Nat → Int32))) : Nat → Int32 → (Nat → Int32) → Option ((Nat → Int32))
  | 0, _, _ => none
  | n + 1, x3, w_t_lesserSums => (if (240 : Int32) < x3 then (K w_t_lesserSums) else (ck (inb x3 241) (ck (inb x3 241) (L_X5_addToSums_6 N x2 K n (x3 + (1 : Int32)) (upd w_t_lesserSums x3.toNatClampNeg ((w_t_lesserSums x3.toNatClampNeg) + x2))))))

def f_X5_addToSums (N : Nat) (p1 : Int32) (p2 : Int32) (t_lesserSums : (Nat → Int32)) : Option ((Nat → Int32)) :=
  (L_X5_addToSums_6 N p2 (fun u4 => (some u4)) N (mxI p1 (0 : Int32)) t_lesserSums)

set_option maxHeartbeats 4000000 in
set_option maxRecDepth 100000 in
theorem c_X5_addToSums (l : Launch) (D : va_G) (cI cZ cJ cO : ClassId) (sz : Nat) (q_t q_t_lengths q_t_riggings q_t_lesserSums : Nat) (N : Nat) (p1 : Int32) (p2 : Int32) (t_size : Int32) (t_boxesRead : Int32) (t_lesserSums : (Nat → Int32)) (o_t_lesserSums : (Nat → Int32)) (hf : f_X5_addToSums N p1 p2 t_lesserSums = some o_t_lesserSums) : Met l yX5_addToSums wsX5_addToSums ({ frames := 1, cells := 0, slots := 0, locals := 21 }) (PreC D (TY cI cZ cJ cO) [.ref q_t, .int p1, .int p2] [(q_t, .inr (5, [.ref q_t_lengths, .ref q_t_riggings, .ref q_t_lesserSums, .int t_size, .int t_boxesRead])), (q_t_lesserSums, .inl (cI, 241, .inl t_lesserSums))] sz) (QcV D [(q_t, .inr (5, [.ref q_t_lengths, .ref q_t_riggings, .ref q_t_lesserSums, .int t_size, .int t_boxesRead])), (q_t_lesserSums, .inl (cI, 241, .inl o_t_lesserSums))] (va_A [(q_t, .inr (5, [.ref q_t_lengths, .ref q_t_riggings, .ref q_t_lesserSums, .int t_size, .int t_boxesRead])), (q_t_lesserSums, .inl (cI, 241, .inl t_lesserSums))] sz)) 0 0 (va_A [(q_t, .inr (5, [.ref q_t_lengths, .ref q_t_riggings, .ref q_t_lesserSums, .int t_size, .int t_boxesRead])), (q_t_lesserSums, .inl (cI, 241, .inl t_lesserSums))] sz) := by
  refine ctr (cc := cX5_addToSums) (maxL := 4) (ret := none) (by decide) rfl (Nat.le_of_ble_eq_true rfl) ?_
  intro p e s m below meth c S hr hlk hnm hK hN hsz hA hw ls hl
  generalize va_A [(q_t, .inr (5, [.ref q_t_lengths, .ref q_t_riggings, .ref q_t_lesserSums, .int t_size, .int t_boxesRead])), (q_t_lesserSums, .inl (cI, 241, .inl t_lesserSums))] sz = A at hA hw ⊢
  have S : CallFix p m c cX5_addToSums 4 s ([.ref q_t, .int p1, .int p2] : List Value).toArray wsX5_addToSums RX5 := S
  have hx := S.1
  have hb := S.2.1
  have hts := S.2.2.2.2
  have hl : lv_has ls 4 [(0, .ref q_t), (1, .int p1), (2, .int p2)] := hl
  have hinX5 : ∀ w ∈ u_ws RX5 TX5 5, w ∈ wsX5_addToSums := by decide +kernel
  have k18 : Cond.fieldLink RX5 18 "BallBoxes$Strings" "lesserSums" "[I" ∈ wsX5_addToSums := by decide +kernel
  have Lp6 : ∀ (x2 : Int32) (K : (Nat → Int32) → Option ((Nat → Int32))), (∀ (z_t_lesserSums : (Nat → Int32)) (H : Heap) (locs : List Loc) (ls : Array Slot), Wd D A s.heap [(q_t, .inr (5, [.ref q_t_lengths, .ref q_t_riggings, .ref q_t_lesserSums, .int t_size, .int t_boxesRead])), (q_t_lesserSums, .inl (cI, 241, .inl z_t_lesserSums))] H locs → lv_has ls 4 [] → K z_t_lesserSums = some o_t_lesserSums → W p l e ({ frames := 1, cells := 0, slots := 0, locals := 21 } : Room) s m ([.ref q_t, .int p1, .int p2] : List Value).toArray below meth c H locs 0 0 (MQ below (QcV D [(q_t, .inr (5, [.ref q_t_lengths, .ref q_t_riggings, .ref q_t_lesserSums, .int t_size, .int t_boxesRead])), (q_t_lesserSums, .inl (cI, 241, .inl o_t_lesserSums))] A) ([.ref q_t, .int p1, .int p2] : List Value).toArray s 0 0 A) (F0 m 29 ls [])) → ∀ (n : Nat) (x3 : Int32) (w_t_lesserSums : (Nat → Int32)) (H : Heap) (locs : List Loc) (ls : Array Slot), Wd D A s.heap [(q_t, .inr (5, [.ref q_t_lengths, .ref q_t_riggings, .ref q_t_lesserSums, .int t_size, .int t_boxesRead])), (q_t_lesserSums, .inl (cI, 241, .inl w_t_lesserSums))] H locs → lv_has ls 4 [(0, .ref q_t), (2, .int x2), (3, .int x3)] → L_X5_addToSums_6 N x2 K n x3 w_t_lesserSums = some o_t_lesserSums → W p l e ({ frames := 1, cells := 0, slots := 0, locals := 21 } : Room) s m ([.ref q_t, .int p1, .int p2] : List Value).toArray below meth c H locs 0 0 (MQ below (QcV D [(q_t, .inr (5, [.ref q_t_lengths, .ref q_t_riggings, .ref q_t_lesserSums, .int t_size, .int t_boxesRead])), (q_t_lesserSums, .inl (cI, 241, .inl o_t_lesserSums))] A) ([.ref q_t, .int p1, .int p2] : List Value).toArray s 0 0 A) (F0 m 6 ls []) := by
    intro x2 K hKx n
    induction n with
    | zero =>
      intro x3 w_t_lesserSums H locs ls hw hl hf
      rw [L_X5_addToSums_6] at hf
      cases hf
    | succ n ih =>
      intro x3 w_t_lesserSums H locs ls hw hl hf
      rw [L_X5_addToSums_6] at hf
      refine lv_iload_n hx hb dX5_addToSums_6 rfl (lv_at hl 2 rfl) ?_
      refine lv_sipush (v := (240 : Int32)) hx hb dX5_addToSums_7 (by decide) ?_
      refine lv_icmp_gt (tgt := 29) hx hb dX5_addToSums_10 (by decide) (fun c1 => ?_) (fun c1 => ?_)
      · have hf := (if_pos c1).symm.trans hf
        exact hKx w_t_lesserSums _ _ _ hw (lv_sub hl [] rfl) hf
      · have hf := (if_neg c1).symm.trans hf
        refine lv_aload_n hx hb dX5_addToSums_13 rfl (lv_at hl 0 rfl) ?_
        refine g_get (ci := 5) (C := RX5) (T := TX5) (N := 5) S hinX5 hK hw 0 2 k18 dX5_addToSums_14 rfl rfl (by decide) rfl ?_
        refine lv_iload_n hx hb dX5_addToSums_17 rfl (lv_at hl 2 rfl) ?_
        refine lv_dup2_11 hx hb dX5_addToSums_18 rfl rfl ?_
        obtain ⟨b2, hf⟩ := ck_some hf
        refine g_iald S hK hw 1 0 b2 dX5_addToSums_19 rfl rfl ?_
        refine lv_iload_n hx hb dX5_addToSums_20 rfl (lv_at hl 1 rfl) ?_
        refine lv_iadd hx hb dX5_addToSums_21 ?_
        obtain ⟨b3, hf⟩ := ck_some hf
        refine g_iast (ws' := [(q_t, .inr (5, [.ref q_t_lengths, .ref q_t_riggings, .ref q_t_lesserSums, .int t_size, .int t_boxesRead])), (q_t_lesserSums, .inl (cI, 241, .inl (upd w_t_lesserSums x3.toNatClampNeg ((w_t_lesserSums x3.toNatClampNeg) + x2))))]) S hK hw 1 0 b3 dX5_addToSums_22 rfl rfl rfl (fun H locs hw => ?_)
        refine lv_iinc (v := (x3 + (1 : Int32))) (lv' := [(3, .int (x3 + (1 : Int32))), (0, .ref q_t), (2, .int x2)]) hx hb dX5_addToSums_23 hl (k := 2) rfl rfl (by decide) rfl (fun ls hl => ?_)
        refine lv_goto (tgt := 6) hx hb dX5_addToSums_26 (by decide) ?_
        exact ih (x3 + (1 : Int32)) (upd w_t_lesserSums x3.toNatClampNeg ((w_t_lesserSums x3.toNatClampNeg) + x2)) _ _ _ hw (lv_sub hl [1, 2, 0] rfl) hf
  unfold f_X5_addToSums at hf
  refine lv_iload_n hx hb dX5_addToSums_0 rfl (lv_at hl 1 rfl) ?_
  refine lv_iconst (v := (0 : Int32)) hx hb dX5_addToSums_1 (by decide) ?_
  refine va_mmax hx hb (S.2.2.1.trans hl.1.symm) S.2.2.2.1 (hts (.methodLink RX5 84 Lib.Math.max.name) (by decide +kernel)) (hts (.static Lib.Math.max.name) (by decide +kernel)) (hts (.initialized "java/lang/Math") (by decide +kernel)) (hts (.code Lib.Math.max.name Lib.Math.max.code 2 (some .int)) (by decide +kernel)) (Nat.le_of_ble_eq_true rfl) (Nat.le_of_ble_eq_true rfl) (Nat.zero_le _) (Nat.zero_le _) dX5_addToSums_2 ?_
  refine W.eq (g2 := F0 m 5 ls [.int (mxI p1 (0 : Int32))]) rfl ?_
  refine lv_istore_n (lv' := [(3, .int (mxI p1 (0 : Int32))), (0, .ref q_t), (1, .int p1), (2, .int p2)]) hx hb dX5_addToSums_5 rfl hl (by decide) rfl (fun ls hl => ?_)
  refine Lp6 p2 _ (fun u4 H locs ls hw hl hf => ?_) N (mxI p1 (0 : Int32)) t_lesserSums _ _ _ hw (lv_sub hl [1, 3, 0] rfl) hf
  obtain rfl := Option.some.inj hf
  exact rt_v S hr hlk hw dX5_addToSums_29

def f_X5_isTight (N : Nat) (p1 : Int32) (p2 : Int32) (t_size : Int32) (t_lengths : (Nat → Int32)) (t_riggings : (Nat → Int32)) (t_lesserSums : (Nat → Int32)) : Option (Int32) :=
  (bd1 (f_X5_riggingOf N p1 t_size t_riggings) (fun r1 => (bd1 (f_X5_lengthOf N p1 t_size t_lengths) (fun r3 => (bd1 (f_X5_roomLeft N r3 p2 t_lesserSums) (fun r5 => (if r1 = r5 then (some (1 : Int32)) else (some (0 : Int32)))))))))

set_option maxHeartbeats 4000000 in
set_option maxRecDepth 100000 in
theorem c_X5_isTight (l : Launch) (D : va_G) (cI cZ cJ cO : ClassId) (sz : Nat) (q_t q_t_lengths q_t_riggings q_t_lesserSums : Nat) (N : Nat) (p1 : Int32) (p2 : Int32) (t_size : Int32) (t_boxesRead : Int32) (t_lengths : (Nat → Int32)) (t_riggings : (Nat → Int32)) (t_lesserSums : (Nat → Int32)) (r : Int32) (hf : f_X5_isTight N p1 p2 t_size t_lengths t_riggings t_lesserSums = some r) : Met l yX5_isTight wsX5_isTight ({ frames := 2, cells := 0, slots := 0, locals := 42 }) (PreC D (TY cI cZ cJ cO) [.ref q_t, .int p1, .int p2] [(q_t, .inr (5, [.ref q_t_lengths, .ref q_t_riggings, .ref q_t_lesserSums, .int t_size, .int t_boxesRead])), (q_t_lengths, .inl (cI, 240, .inl t_lengths)), (q_t_riggings, .inl (cI, 240, .inl t_riggings)), (q_t_lesserSums, .inl (cI, 241, .inl t_lesserSums))] sz) (QcI D [(q_t, .inr (5, [.ref q_t_lengths, .ref q_t_riggings, .ref q_t_lesserSums, .int t_size, .int t_boxesRead])), (q_t_lengths, .inl (cI, 240, .inl t_lengths)), (q_t_riggings, .inl (cI, 240, .inl t_riggings)), (q_t_lesserSums, .inl (cI, 241, .inl t_lesserSums))] (va_A [(q_t, .inr (5, [.ref q_t_lengths, .ref q_t_riggings, .ref q_t_lesserSums, .int t_size, .int t_boxesRead])), (q_t_lengths, .inl (cI, 240, .inl t_lengths)), (q_t_riggings, .inl (cI, 240, .inl t_riggings)), (q_t_lesserSums, .inl (cI, 241, .inl t_lesserSums))] sz) r) 0 0 (va_A [(q_t, .inr (5, [.ref q_t_lengths, .ref q_t_riggings, .ref q_t_lesserSums, .int t_size, .int t_boxesRead])), (q_t_lengths, .inl (cI, 240, .inl t_lengths)), (q_t_riggings, .inl (cI, 240, .inl t_riggings)), (q_t_lesserSums, .inl (cI, 241, .inl t_lesserSums))] sz) := by
  refine ctr (cc := cX5_isTight) (maxL := 3) (ret := (some .boolean)) (by decide) rfl (Nat.le_of_ble_eq_true rfl) ?_
  intro p e s m below meth c S hr hlk hnm hK hN hsz hA hw ls hl
  generalize va_A [(q_t, .inr (5, [.ref q_t_lengths, .ref q_t_riggings, .ref q_t_lesserSums, .int t_size, .int t_boxesRead])), (q_t_lengths, .inl (cI, 240, .inl t_lengths)), (q_t_riggings, .inl (cI, 240, .inl t_riggings)), (q_t_lesserSums, .inl (cI, 241, .inl t_lesserSums))] sz = A at hA hw ⊢
  have S : CallFix p m c cX5_isTight 3 s ([.ref q_t, .int p1, .int p2] : List Value).toArray wsX5_isTight RX5 := S
  have hx := S.1
  have hb := S.2.1
  have hts := S.2.2.2.2
  have hl : lv_has ls 3 [(0, .ref q_t), (1, .int p1), (2, .int p2)] := hl
  unfold f_X5_isTight at hf
  refine lv_aload_n hx hb dX5_isTight_0 rfl (lv_at hl 0 rfl) ?_
  refine lv_iload_n hx hb dX5_isTight_1 rfl (lv_at hl 1 rfl) ?_
  obtain ⟨r1, h2, hf⟩ := bd1_some hf
  refine cl_i (wr := [(q_t_lengths, .inl (cI, 240, .inl t_lengths)), (q_t_lesserSums, .inl (cI, 241, .inl t_lesserSums))]) (ws' := [(q_t, .inr (5, [.ref q_t_lengths, .ref q_t_riggings, .ref q_t_lesserSums, .int t_size, .int t_boxesRead])), (q_t_lengths, .inl (cI, 240, .inl t_lengths)), (q_t_riggings, .inl (cI, 240, .inl t_riggings)), (q_t_lesserSums, .inl (cI, 241, .inl t_lesserSums))]) hA hw [0, 2] [1, 3] [2, 0, 3, 1] rfl rfl rfl (by decide) rfl rfl (va_runV (As := [.int p1]) (rest := []) S (c_X5_riggingOf l D cI cZ cJ cO _ q_t q_t_lengths q_t_riggings q_t_lesserSums N p1 t_size t_boxesRead t_riggings r1 h2) (cwV 1 hts gX5_isTight_X5_riggingOf rfl rfl rfl (by decide +kernel) ⟨Nat.le_of_ble_eq_true rfl, Nat.le_of_ble_eq_true rfl⟩) (pre_V hK hN hw [0, 2] rfl rfl (C := RX5) (T := TX5) (N := 5) (ci := 5) (q0 := 0) rfl rfl) rfl rfl hl.1 rfl (lv_room (Nat.le_of_ble_eq_true rfl)) dX5_isTight_2 ⟨Nat.zero_le _, Nat.zero_le _⟩) (fun H locs hw => ?_)
  refine lv_aload_n hx hb dX5_isTight_5 rfl (lv_at hl 0 rfl) ?_
  refine lv_aload_n hx hb dX5_isTight_6 rfl (lv_at hl 0 rfl) ?_
  refine lv_iload_n hx hb dX5_isTight_7 rfl (lv_at hl 1 rfl) ?_
  obtain ⟨r3, h4, hf⟩ := bd1_some hf
  refine cl_i (wr := [(q_t_riggings, .inl (cI, 240, .inl t_riggings)), (q_t_lesserSums, .inl (cI, 241, .inl t_lesserSums))]) (ws' := [(q_t, .inr (5, [.ref q_t_lengths, .ref q_t_riggings, .ref q_t_lesserSums, .int t_size, .int t_boxesRead])), (q_t_lengths, .inl (cI, 240, .inl t_lengths)), (q_t_riggings, .inl (cI, 240, .inl t_riggings)), (q_t_lesserSums, .inl (cI, 241, .inl t_lesserSums))]) hA hw [0, 1] [2, 3] [2, 3, 0, 1] rfl rfl rfl (by decide) rfl rfl (va_runV (As := [.int p1]) (rest := [.ref q_t, .int r1]) S (c_X5_lengthOf l D cI cZ cJ cO _ q_t q_t_lengths q_t_riggings q_t_lesserSums N p1 t_size t_boxesRead t_lengths r3 h4) (cwV 1 hts gX5_isTight_X5_lengthOf rfl rfl rfl (by decide +kernel) ⟨Nat.le_of_ble_eq_true rfl, Nat.le_of_ble_eq_true rfl⟩) (pre_V hK hN hw [0, 1] rfl rfl (C := RX5) (T := TX5) (N := 5) (ci := 5) (q0 := 0) rfl rfl) rfl rfl hl.1 rfl (lv_room (Nat.le_of_ble_eq_true rfl)) dX5_isTight_8 ⟨Nat.zero_le _, Nat.zero_le _⟩) (fun H locs hw => ?_)
  refine lv_iload_n hx hb dX5_isTight_11 rfl (lv_at hl 2 rfl) ?_
  obtain ⟨r5, h6, hf⟩ := bd1_some hf
  refine cl_i (wr := [(q_t_lengths, .inl (cI, 240, .inl t_lengths)), (q_t_riggings, .inl (cI, 240, .inl t_riggings))]) (ws' := [(q_t, .inr (5, [.ref q_t_lengths, .ref q_t_riggings, .ref q_t_lesserSums, .int t_size, .int t_boxesRead])), (q_t_lengths, .inl (cI, 240, .inl t_lengths)), (q_t_riggings, .inl (cI, 240, .inl t_riggings)), (q_t_lesserSums, .inl (cI, 241, .inl t_lesserSums))]) hA hw [0, 3] [1, 2] [2, 0, 1, 3] rfl rfl rfl (by decide) rfl rfl (va_runV (As := [.int r3, .int p2]) (rest := [.int r1]) S (c_X5_roomLeft l D cI cZ cJ cO _ q_t q_t_lengths q_t_riggings q_t_lesserSums N r3 p2 t_size t_boxesRead t_lesserSums r5 h6) (cwV 2 hts gX5_isTight_X5_roomLeft rfl rfl rfl (by decide +kernel) ⟨Nat.le_of_ble_eq_true rfl, Nat.le_of_ble_eq_true rfl⟩) (pre_V hK hN hw [0, 3] rfl rfl (C := RX5) (T := TX5) (N := 5) (ci := 5) (q0 := 0) rfl rfl) rfl rfl hl.1 rfl (lv_room (Nat.le_of_ble_eq_true rfl)) dX5_isTight_12 ⟨Nat.zero_le _, Nat.zero_le _⟩) (fun H locs hw => ?_)
  refine lv_icmp_ne (tgt := 22) hx hb dX5_isTight_15 (by decide) (fun c7 => ?_) (fun c7 => ?_)
  · have hf := (if_neg c7).symm.trans hf
    refine lv_iconst (v := (0 : Int32)) hx hb dX5_isTight_22 (by decide) ?_
    obtain rfl := Option.some.inj hf
    exact rt_z S hr hlk hw dX5_isTight_23 rfl
  · have hf := (if_pos c7).symm.trans hf
    refine lv_iconst (v := (1 : Int32)) hx hb dX5_isTight_18 (by decide) ?_
    refine lv_goto (tgt := 23) hx hb dX5_isTight_19 (by decide) ?_
    obtain rfl := Option.some.inj hf
    exact rt_z S hr hlk hw dX5_isTight_23 rfl

def L_X5_longestTight_4 (N : Nat) (x1 : Int32) (t_size : Int32) (t_lengths : (Nat → Int32)) (t_riggings : (Nat → Int32)) (t_lesserSums : (Nat → Int32)) (K : Int32 → Option (Int32)) : Nat → Int32 → Int32 → Option (Int32)
  | 0, _, _ => none
  | n + 1, x2, x3 => (if t_size ≤ x3 then (K x2) else (if (240 : Int32) ≤ x3 then (K x2) else (bd1 (f_X5_isTight N x3 x1 t_size t_lengths t_riggings t_lesserSums) (fun r3 => (if r3 = (0 : Int32) then (L_X5_longestTight_4 N x1 t_size t_lengths t_riggings t_lesserSums K n x2 (x3 + (1 : Int32))) else (if x2 = (-1 : Int32) then (L_X5_longestTight_4 N x1 t_size t_lengths t_riggings t_lesserSums K n x3 (x3 + (1 : Int32))) else (ck (inb x3 240) (bd1 (f_X5_lengthOf N x2 t_size t_lengths) (fun r8 => (if (t_lengths x3.toNatClampNeg) ≤ r8 then (L_X5_longestTight_4 N x1 t_size t_lengths t_riggings t_lesserSums K n x2 (x3 + (1 : Int32))) else (L_X5_longestTight_4 N x1 t_size t_lengths t_riggings t_lesserSums K n x3 (x3 + (1 : Int32)))))))))))))

def f_X5_longestTight (N : Nat) (p1 : Int32) (t_size : Int32) (t_lengths : (Nat → Int32)) (t_riggings : (Nat → Int32)) (t_lesserSums : (Nat → Int32)) : Option (Int32) :=
  (L_X5_longestTight_4 N p1 t_size t_lengths t_riggings t_lesserSums (fun y11 => (some y11)) N (-1 : Int32) (0 : Int32))

set_option maxHeartbeats 4000000 in
set_option maxRecDepth 100000 in
theorem c_X5_longestTight (l : Launch) (D : va_G) (cI cZ cJ cO : ClassId) (sz : Nat) (q_t q_t_lengths q_t_riggings q_t_lesserSums : Nat) (N : Nat) (p1 : Int32) (t_size : Int32) (t_boxesRead : Int32) (t_lengths : (Nat → Int32)) (t_riggings : (Nat → Int32)) (t_lesserSums : (Nat → Int32)) (r : Int32) (hf : f_X5_longestTight N p1 t_size t_lengths t_riggings t_lesserSums = some r) : Met l yX5_longestTight wsX5_longestTight ({ frames := 3, cells := 0, slots := 0, locals := 64 }) (PreC D (TY cI cZ cJ cO) [.ref q_t, .int p1] [(q_t, .inr (5, [.ref q_t_lengths, .ref q_t_riggings, .ref q_t_lesserSums, .int t_size, .int t_boxesRead])), (q_t_lengths, .inl (cI, 240, .inl t_lengths)), (q_t_riggings, .inl (cI, 240, .inl t_riggings)), (q_t_lesserSums, .inl (cI, 241, .inl t_lesserSums))] sz) (QcI D [(q_t, .inr (5, [.ref q_t_lengths, .ref q_t_riggings, .ref q_t_lesserSums, .int t_size, .int t_boxesRead])), (q_t_lengths, .inl (cI, 240, .inl t_lengths)), (q_t_riggings, .inl (cI, 240, .inl t_riggings)), (q_t_lesserSums, .inl (cI, 241, .inl t_lesserSums))] (va_A [(q_t, .inr (5, [.ref q_t_lengths, .ref q_t_riggings, .ref q_t_lesserSums, .int t_size, .int t_boxesRead])), (q_t_lengths, .inl (cI, 240, .inl t_lengths)), (q_t_riggings, .inl (cI, 240, .inl t_riggings)), (q_t_lesserSums, .inl (cI, 241, .inl t_lesserSums))] sz) r) 0 0 (va_A [(q_t, .inr (5, [.ref q_t_lengths, .ref q_t_riggings, .ref q_t_lesserSums, .int t_size, .int t_boxesRead])), (q_t_lengths, .inl (cI, 240, .inl t_lengths)), (q_t_riggings, .inl (cI, 240, .inl t_riggings)), (q_t_lesserSums, .inl (cI, 241, .inl t_lesserSums))] sz) := by
  refine ctr (cc := cX5_longestTight) (maxL := 4) (ret := (some .int)) (by decide) rfl (Nat.le_of_ble_eq_true rfl) ?_
  intro p e s m below meth c S hr hlk hnm hK hN hsz hA hw ls hl
  generalize va_A [(q_t, .inr (5, [.ref q_t_lengths, .ref q_t_riggings, .ref q_t_lesserSums, .int t_size, .int t_boxesRead])), (q_t_lengths, .inl (cI, 240, .inl t_lengths)), (q_t_riggings, .inl (cI, 240, .inl t_riggings)), (q_t_lesserSums, .inl (cI, 241, .inl t_lesserSums))] sz = A at hA hw ⊢
  have S : CallFix p m c cX5_longestTight 4 s ([.ref q_t, .int p1] : List Value).toArray wsX5_longestTight RX5 := S
  have hx := S.1
  have hb := S.2.1
  have hts := S.2.2.2.2
  have hl : lv_has ls 4 [(0, .ref q_t), (1, .int p1)] := hl
  have hinX5 : ∀ w ∈ u_ws RX5 TX5 5, w ∈ wsX5_longestTight := by decide +kernel
  have k9 : Cond.fieldLink RX5 9 "BallBoxes$Strings" "lengths" "[I" ∈ wsX5_longestTight := by decide +kernel
  have k21 : Cond.fieldLink RX5 21 "BallBoxes$Strings" "size" "I" ∈ wsX5_longestTight := by decide +kernel
  have Lp4 : ∀ (x1 : Int32) (K : Int32 → Option (Int32)), (∀ (z2 : Int32) (H : Heap) (locs : List Loc) (ls : Array Slot), Wd D A s.heap [(q_t, .inr (5, [.ref q_t_lengths, .ref q_t_riggings, .ref q_t_lesserSums, .int t_size, .int t_boxesRead])), (q_t_lengths, .inl (cI, 240, .inl t_lengths)), (q_t_riggings, .inl (cI, 240, .inl t_riggings)), (q_t_lesserSums, .inl (cI, 241, .inl t_lesserSums))] H locs → lv_has ls 4 [(2, .int z2)] → K z2 = some r → W p l e ({ frames := 3, cells := 0, slots := 0, locals := 64 } : Room) s m ([.ref q_t, .int p1] : List Value).toArray below meth c H locs 0 0 (MQ below (QcI D [(q_t, .inr (5, [.ref q_t_lengths, .ref q_t_riggings, .ref q_t_lesserSums, .int t_size, .int t_boxesRead])), (q_t_lengths, .inl (cI, 240, .inl t_lengths)), (q_t_riggings, .inl (cI, 240, .inl t_riggings)), (q_t_lesserSums, .inl (cI, 241, .inl t_lesserSums))] A r) ([.ref q_t, .int p1] : List Value).toArray s 0 0 A) (F0 m 55 ls [])) → ∀ (n : Nat) (x2 : Int32) (x3 : Int32) (H : Heap) (locs : List Loc) (ls : Array Slot), Wd D A s.heap [(q_t, .inr (5, [.ref q_t_lengths, .ref q_t_riggings, .ref q_t_lesserSums, .int t_size, .int t_boxesRead])), (q_t_lengths, .inl (cI, 240, .inl t_lengths)), (q_t_riggings, .inl (cI, 240, .inl t_riggings)), (q_t_lesserSums, .inl (cI, 241, .inl t_lesserSums))] H locs → lv_has ls 4 [(0, .ref q_t), (1, .int x1), (2, .int x2), (3, .int x3)] → L_X5_longestTight_4 N x1 t_size t_lengths t_riggings t_lesserSums K n x2 x3 = some r → W p l e ({ frames := 3, cells := 0, slots := 0, locals := 64 } : Room) s m ([.ref q_t, .int p1] : List Value).toArray below meth c H locs 0 0 (MQ below (QcI D [(q_t, .inr (5, [.ref q_t_lengths, .ref q_t_riggings, .ref q_t_lesserSums, .int t_size, .int t_boxesRead])), (q_t_lengths, .inl (cI, 240, .inl t_lengths)), (q_t_riggings, .inl (cI, 240, .inl t_riggings)), (q_t_lesserSums, .inl (cI, 241, .inl t_lesserSums))] A r) ([.ref q_t, .int p1] : List Value).toArray s 0 0 A) (F0 m 4 ls []) := by
    intro x1 K hKx n
    induction n with
    | zero =>
      intro x2 x3 H locs ls hw hl hf
      rw [L_X5_longestTight_4] at hf
      cases hf
    | succ n ih =>
      intro x2 x3 H locs ls hw hl hf
      rw [L_X5_longestTight_4] at hf
      refine lv_iload_n hx hb dX5_longestTight_4 rfl (lv_at hl 3 rfl) ?_
      refine lv_aload_n hx hb dX5_longestTight_5 rfl (lv_at hl 0 rfl) ?_
      refine g_get (ci := 5) (C := RX5) (T := TX5) (N := 5) S hinX5 hK hw 0 3 k21 dX5_longestTight_6 rfl rfl (by decide) rfl ?_
      refine lv_icmp_ge (tgt := 55) hx hb dX5_longestTight_9 (by decide) (fun c1 => ?_) (fun c1 => ?_)
      · have hf := (if_pos c1).symm.trans hf
        exact hKx x2 _ _ _ hw (lv_sub hl [2] rfl) hf
      · have hf := (if_neg c1).symm.trans hf
        refine lv_iload_n hx hb dX5_longestTight_12 rfl (lv_at hl 3 rfl) ?_
        refine lv_sipush (v := (240 : Int32)) hx hb dX5_longestTight_13 (by decide) ?_
        refine lv_icmp_ge (tgt := 55) hx hb dX5_longestTight_16 (by decide) (fun c2 => ?_) (fun c2 => ?_)
        · have hf := (if_pos c2).symm.trans hf
          exact hKx x2 _ _ _ hw (lv_sub hl [2] rfl) hf
        · have hf := (if_neg c2).symm.trans hf
          refine lv_aload_n hx hb dX5_longestTight_19 rfl (lv_at hl 0 rfl) ?_
          refine lv_iload_n hx hb dX5_longestTight_20 rfl (lv_at hl 3 rfl) ?_
          refine lv_iload_n hx hb dX5_longestTight_21 rfl (lv_at hl 1 rfl) ?_
          obtain ⟨r3, h4, hf⟩ := bd1_some hf
          refine cl_i (wr := []) (ws' := [(q_t, .inr (5, [.ref q_t_lengths, .ref q_t_riggings, .ref q_t_lesserSums, .int t_size, .int t_boxesRead])), (q_t_lengths, .inl (cI, 240, .inl t_lengths)), (q_t_riggings, .inl (cI, 240, .inl t_riggings)), (q_t_lesserSums, .inl (cI, 241, .inl t_lesserSums))]) hA hw [0, 1, 2, 3] [] [0, 1, 2, 3] rfl rfl rfl (by decide) rfl rfl (va_runV (As := [.int x3, .int x1]) (rest := []) S (c_X5_isTight l D cI cZ cJ cO _ q_t q_t_lengths q_t_riggings q_t_lesserSums N x3 x1 t_size t_boxesRead t_lengths t_riggings t_lesserSums r3 h4) (cwV 2 hts gX5_longestTight_X5_isTight rfl rfl rfl (by decide +kernel) ⟨Nat.le_of_ble_eq_true rfl, Nat.le_of_ble_eq_true rfl⟩) (pre_V hK hN hw [0, 1, 2, 3] rfl rfl (C := RX5) (T := TX5) (N := 5) (ci := 5) (q0 := 0) rfl rfl) rfl rfl hl.1 rfl (lv_room (Nat.le_of_ble_eq_true rfl)) dX5_longestTight_22 ⟨Nat.zero_le _, Nat.zero_le _⟩) (fun H locs hw => ?_)
          refine lv_if_eq (tgt := 49) hx hb dX5_longestTight_25 (by decide) (fun c5 => ?_) (fun c5 => ?_)
          · have hf := (if_pos c5).symm.trans hf
            refine lv_iinc (v := (x3 + (1 : Int32))) (lv' := [(3, .int (x3 + (1 : Int32))), (0, .ref q_t), (1, .int x1), (2, .int x2)]) hx hb dX5_longestTight_49 hl (k := 3) rfl rfl (by decide) rfl (fun ls hl => ?_)
            refine lv_goto (tgt := 4) hx hb dX5_longestTight_52 (by decide) ?_
            exact ih x2 (x3 + (1 : Int32)) _ _ _ hw (lv_sub hl [1, 2, 3, 0] rfl) hf
          · have hf := (if_neg c5).symm.trans hf
            refine lv_iload_n hx hb dX5_longestTight_28 rfl (lv_at hl 2 rfl) ?_
            refine lv_iconst (v := (-1 : Int32)) hx hb dX5_longestTight_29 (by decide) ?_
            refine lv_icmp_eq (tgt := 47) hx hb dX5_longestTight_30 (by decide) (fun c6 => ?_) (fun c6 => ?_)
            · have hf := (if_pos c6).symm.trans hf
              refine lv_iload_n hx hb dX5_longestTight_47 rfl (lv_at hl 3 rfl) ?_
              refine lv_istore_n (lv' := [(2, .int x3), (0, .ref q_t), (1, .int x1), (3, .int x3)]) hx hb dX5_longestTight_48 rfl hl (by decide) rfl (fun ls hl => ?_)
              refine lv_iinc (v := (x3 + (1 : Int32))) (lv' := [(3, .int (x3 + (1 : Int32))), (2, .int x3), (0, .ref q_t), (1, .int x1)]) hx hb dX5_longestTight_49 hl (k := 3) rfl rfl (by decide) rfl (fun ls hl => ?_)
              refine lv_goto (tgt := 4) hx hb dX5_longestTight_52 (by decide) ?_
              exact ih x3 (x3 + (1 : Int32)) _ _ _ hw (lv_sub hl [2, 3, 1, 0] rfl) hf
            · have hf := (if_neg c6).symm.trans hf
              refine lv_aload_n hx hb dX5_longestTight_33 rfl (lv_at hl 0 rfl) ?_
              refine g_get (ci := 5) (C := RX5) (T := TX5) (N := 5) S hinX5 hK hw 0 0 k9 dX5_longestTight_34 rfl rfl (by decide) rfl ?_
              refine lv_iload_n hx hb dX5_longestTight_37 rfl (lv_at hl 3 rfl) ?_
              obtain ⟨b7, hf⟩ := ck_some hf
              refine g_iald S hK hw 1 0 b7 dX5_longestTight_38 rfl rfl ?_
              refine lv_aload_n hx hb dX5_longestTight_39 rfl (lv_at hl 0 rfl) ?_
              refine lv_iload_n hx hb dX5_longestTight_40 rfl (lv_at hl 2 rfl) ?_
              obtain ⟨r8, h9, hf⟩ := bd1_some hf
              refine cl_i (wr := [(q_t_riggings, .inl (cI, 240, .inl t_riggings)), (q_t_lesserSums, .inl (cI, 241, .inl t_lesserSums))]) (ws' := [(q_t, .inr (5, [.ref q_t_lengths, .ref q_t_riggings, .ref q_t_lesserSums, .int t_size, .int t_boxesRead])), (q_t_lengths, .inl (cI, 240, .inl t_lengths)), (q_t_riggings, .inl (cI, 240, .inl t_riggings)), (q_t_lesserSums, .inl (cI, 241, .inl t_lesserSums))]) hA hw [0, 1] [2, 3] [2, 3, 0, 1] rfl rfl rfl (by decide) rfl rfl (va_runV (As := [.int x2]) (rest := [.int (t_lengths x3.toNatClampNeg)]) S (c_X5_lengthOf l D cI cZ cJ cO _ q_t q_t_lengths q_t_riggings q_t_lesserSums N x2 t_size t_boxesRead t_lengths r8 h9) (cwV 1 hts gX5_longestTight_X5_lengthOf rfl rfl rfl (by decide +kernel) ⟨Nat.le_of_ble_eq_true rfl, Nat.le_of_ble_eq_true rfl⟩) (pre_V hK hN hw [0, 1] rfl rfl (C := RX5) (T := TX5) (N := 5) (ci := 5) (q0 := 0) rfl rfl) rfl rfl hl.1 rfl (lv_room (Nat.le_of_ble_eq_true rfl)) dX5_longestTight_41 ⟨Nat.zero_le _, Nat.zero_le _⟩) (fun H locs hw => ?_)
              refine lv_icmp_le (tgt := 49) hx hb dX5_longestTight_44 (by decide) (fun c10 => ?_) (fun c10 => ?_)
              · have hf := (if_pos c10).symm.trans hf
                refine lv_iinc (v := (x3 + (1 : Int32))) (lv' := [(3, .int (x3 + (1 : Int32))), (0, .ref q_t), (1, .int x1), (2, .int x2)]) hx hb dX5_longestTight_49 hl (k := 3) rfl rfl (by decide) rfl (fun ls hl => ?_)
                refine lv_goto (tgt := 4) hx hb dX5_longestTight_52 (by decide) ?_
                exact ih x2 (x3 + (1 : Int32)) _ _ _ hw (lv_sub hl [1, 2, 3, 0] rfl) hf
              · have hf := (if_neg c10).symm.trans hf
                refine lv_iload_n hx hb dX5_longestTight_47 rfl (lv_at hl 3 rfl) ?_
                refine lv_istore_n (lv' := [(2, .int x3), (0, .ref q_t), (1, .int x1), (3, .int x3)]) hx hb dX5_longestTight_48 rfl hl (by decide) rfl (fun ls hl => ?_)
                refine lv_iinc (v := (x3 + (1 : Int32))) (lv' := [(3, .int (x3 + (1 : Int32))), (2, .int x3), (0, .ref q_t), (1, .int x1)]) hx hb dX5_longestTight_49 hl (k := 3) rfl rfl (by decide) rfl (fun ls hl => ?_)
                refine lv_goto (tgt := 4) hx hb dX5_longestTight_52 (by decide) ?_
                exact ih x3 (x3 + (1 : Int32)) _ _ _ hw (lv_sub hl [2, 3, 1, 0] rfl) hf
  unfold f_X5_longestTight at hf
  refine lv_iconst (v := (-1 : Int32)) hx hb dX5_longestTight_0 (by decide) ?_
  refine lv_istore_n (lv' := [(2, .int (-1 : Int32)), (0, .ref q_t), (1, .int p1)]) hx hb dX5_longestTight_1 rfl hl (by decide) rfl (fun ls hl => ?_)
  refine lv_iconst (v := (0 : Int32)) hx hb dX5_longestTight_2 (by decide) ?_
  refine lv_istore_n (lv' := [(3, .int (0 : Int32)), (2, .int (-1 : Int32)), (0, .ref q_t), (1, .int p1)]) hx hb dX5_longestTight_3 rfl hl (by decide) rfl (fun ls hl => ?_)
  refine Lp4 p1 _ (fun y11 H locs ls hw hl hf => ?_) N (-1 : Int32) (0 : Int32) _ _ _ hw (lv_sub hl [2, 3, 1, 0] rfl) hf
  refine lv_iload_n hx hb dX5_longestTight_55 rfl (lv_at hl 0 rfl) ?_
  obtain rfl := Option.some.inj hf
  exact rt_i S hr hlk hw dX5_longestTight_56

def f_X5_takeBall (N : Nat) (p1 : Int32) (t_size : Int32) (t_lengths : (Nat → Int32)) (t_riggings : (Nat → Int32)) (t_lesserSums : (Nat → Int32)) : Option (Int32 × (Nat → Int32) × (Nat → Int32) × (Nat → Int32)) :=
  (bd1 (f_X5_longestTight N p1 t_size t_lengths t_riggings t_lesserSums) (fun r1 => (if r1 = (-1 : Int32) then (bd3 (f_X5_addString N t_size t_lengths) (fun r16 u17 u18 => (bd1 (f_X5_isString N r16 u17) (fun r20 => (if r20 = (0 : Int32) then (some (u17, u18, t_riggings, t_lesserSums)) else (ck (inb r16 240) (ck (inb r16 240) (ck (inb r16 240) (bd1 (f_X5_addToSums N ((upd u18 r16.toNatClampNeg ((u18 r16.toNatClampNeg) + (1 : Int32))) r16.toNatClampNeg) (1 : Int32) t_lesserSums) (fun u26 => (ck (inb r16 240) (bd1 (f_X5_roomLeft N ((upd u18 r16.toNatClampNeg ((u18 r16.toNatClampNeg) + (1 : Int32))) r16.toNatClampNeg) (p1 + (1 : Int32)) u26) (fun r29 => (ck (inb r16 240) (some (u17, (upd u18 r16.toNatClampNeg ((u18 r16.toNatClampNeg) + (1 : Int32))), (upd t_riggings r16.toNatClampNeg r29), u26)))))))))))))))) else (bd1 (f_X5_isString N r1 t_size) (fun r4 => (if r4 = (0 : Int32) then (some (t_size, t_lengths, t_riggings, t_lesserSums)) else (ck (inb r1 240) (ck (inb r1 240) (ck (inb r1 240) (bd1 (f_X5_addToSums N ((upd t_lengths r1.toNatClampNeg ((t_lengths r1.toNatClampNeg) + (1 : Int32))) r1.toNatClampNeg) (1 : Int32) t_lesserSums) (fun u10 => (ck (inb r1 240) (bd1 (f_X5_roomLeft N ((upd t_lengths r1.toNatClampNeg ((t_lengths r1.toNatClampNeg) + (1 : Int32))) r1.toNatClampNeg) (p1 + (1 : Int32)) u10) (fun r13 => (ck (inb r1 240) (some (t_size, (upd t_lengths r1.toNatClampNeg ((t_lengths r1.toNatClampNeg) + (1 : Int32))), (upd t_riggings r1.toNatClampNeg r13), u10)))))))))))))))))

set_option maxHeartbeats 4000000 in
set_option maxRecDepth 100000 in
theorem c_X5_takeBall (l : Launch) (D : va_G) (cI cZ cJ cO : ClassId) (sz : Nat) (q_t q_t_lengths q_t_riggings q_t_lesserSums : Nat) (N : Nat) (p1 : Int32) (t_size : Int32) (t_boxesRead : Int32) (t_lengths : (Nat → Int32)) (t_riggings : (Nat → Int32)) (t_lesserSums : (Nat → Int32)) (o_t_size : Int32) (o_t_lengths : (Nat → Int32)) (o_t_riggings : (Nat → Int32)) (o_t_lesserSums : (Nat → Int32)) (hf : f_X5_takeBall N p1 t_size t_lengths t_riggings t_lesserSums = some (o_t_size, o_t_lengths, o_t_riggings, o_t_lesserSums)) : Met l yX5_takeBall wsX5_takeBall ({ frames := 4, cells := 0, slots := 0, locals := 87 }) (PreC D (TY cI cZ cJ cO) [.ref q_t, .int p1] [(q_t, .inr (5, [.ref q_t_lengths, .ref q_t_riggings, .ref q_t_lesserSums, .int t_size, .int t_boxesRead])), (q_t_lengths, .inl (cI, 240, .inl t_lengths)), (q_t_riggings, .inl (cI, 240, .inl t_riggings)), (q_t_lesserSums, .inl (cI, 241, .inl t_lesserSums))] sz) (QcV D [(q_t, .inr (5, [.ref q_t_lengths, .ref q_t_riggings, .ref q_t_lesserSums, .int o_t_size, .int t_boxesRead])), (q_t_lengths, .inl (cI, 240, .inl o_t_lengths)), (q_t_riggings, .inl (cI, 240, .inl o_t_riggings)), (q_t_lesserSums, .inl (cI, 241, .inl o_t_lesserSums))] (va_A [(q_t, .inr (5, [.ref q_t_lengths, .ref q_t_riggings, .ref q_t_lesserSums, .int t_size, .int t_boxesRead])), (q_t_lengths, .inl (cI, 240, .inl t_lengths)), (q_t_riggings, .inl (cI, 240, .inl t_riggings)), (q_t_lesserSums, .inl (cI, 241, .inl t_lesserSums))] sz)) 0 0 (va_A [(q_t, .inr (5, [.ref q_t_lengths, .ref q_t_riggings, .ref q_t_lesserSums, .int t_size, .int t_boxesRead])), (q_t_lengths, .inl (cI, 240, .inl t_lengths)), (q_t_riggings, .inl (cI, 240, .inl t_riggings)), (q_t_lesserSums, .inl (cI, 241, .inl t_lesserSums))] sz) := by
  refine ctr (cc := cX5_takeBall) (maxL := 3) (ret := none) (by decide) rfl (Nat.le_of_ble_eq_true rfl) ?_
  intro p e s m below meth c S hr hlk hnm hK hN hsz hA hw ls hl
  generalize va_A [(q_t, .inr (5, [.ref q_t_lengths, .ref q_t_riggings, .ref q_t_lesserSums, .int t_size, .int t_boxesRead])), (q_t_lengths, .inl (cI, 240, .inl t_lengths)), (q_t_riggings, .inl (cI, 240, .inl t_riggings)), (q_t_lesserSums, .inl (cI, 241, .inl t_lesserSums))] sz = A at hA hw ⊢
  have S : CallFix p m c cX5_takeBall 3 s ([.ref q_t, .int p1] : List Value).toArray wsX5_takeBall RX5 := S
  have hx := S.1
  have hb := S.2.1
  have hts := S.2.2.2.2
  have hl : lv_has ls 3 [(0, .ref q_t), (1, .int p1)] := hl
  have hinX5 : ∀ w ∈ u_ws RX5 TX5 5, w ∈ wsX5_takeBall := by decide +kernel
  have k9 : Cond.fieldLink RX5 9 "BallBoxes$Strings" "lengths" "[I" ∈ wsX5_takeBall := by decide +kernel
  have k15 : Cond.fieldLink RX5 15 "BallBoxes$Strings" "riggings" "[I" ∈ wsX5_takeBall := by decide +kernel
  unfold f_X5_takeBall at hf
  refine lv_aload_n hx hb dX5_takeBall_0 rfl (lv_at hl 0 rfl) ?_
  refine lv_iload_n hx hb dX5_takeBall_1 rfl (lv_at hl 1 rfl) ?_
  obtain ⟨r1, h2, hf⟩ := bd1_some hf
  refine cl_i (wr := []) (ws' := [(q_t, .inr (5, [.ref q_t_lengths, .ref q_t_riggings, .ref q_t_lesserSums, .int t_size, .int t_boxesRead])), (q_t_lengths, .inl (cI, 240, .inl t_lengths)), (q_t_riggings, .inl (cI, 240, .inl t_riggings)), (q_t_lesserSums, .inl (cI, 241, .inl t_lesserSums))]) hA hw [0, 1, 2, 3] [] [0, 1, 2, 3] rfl rfl rfl (by decide) rfl rfl (va_runV (As := [.int p1]) (rest := []) S (c_X5_longestTight l D cI cZ cJ cO _ q_t q_t_lengths q_t_riggings q_t_lesserSums N p1 t_size t_boxesRead t_lengths t_riggings t_lesserSums r1 h2) (cwV 1 hts gX5_takeBall_X5_longestTight rfl rfl rfl (by decide +kernel) ⟨Nat.le_of_ble_eq_true rfl, Nat.le_of_ble_eq_true rfl⟩) (pre_V hK hN hw [0, 1, 2, 3] rfl rfl (C := RX5) (T := TX5) (N := 5) (ci := 5) (q0 := 0) rfl rfl) rfl rfl hl.1 rfl (lv_room (Nat.le_of_ble_eq_true rfl)) dX5_takeBall_2 ⟨Nat.zero_le _, Nat.zero_le _⟩) (fun H locs hw => ?_)
  refine lv_istore_n (lv' := [(2, .int r1), (0, .ref q_t), (1, .int p1)]) hx hb dX5_takeBall_5 rfl hl (by decide) rfl (fun ls hl => ?_)
  refine lv_iload_n hx hb dX5_takeBall_6 rfl (lv_at hl 0 rfl) ?_
  refine lv_iconst (v := (-1 : Int32)) hx hb dX5_takeBall_7 (by decide) ?_
  refine lv_icmp_ne (tgt := 16) hx hb dX5_takeBall_8 (by decide) (fun c3 => ?_) (fun c3 => ?_)
  · have hf := (if_neg c3).symm.trans hf
    refine lv_aload_n hx hb dX5_takeBall_16 rfl (lv_at hl 1 rfl) ?_
    refine lv_iload_n hx hb dX5_takeBall_17 rfl (lv_at hl 0 rfl) ?_
    obtain ⟨r4, h5, hf⟩ := bd1_some hf
    refine cl_i (wr := [(q_t_lengths, .inl (cI, 240, .inl t_lengths)), (q_t_riggings, .inl (cI, 240, .inl t_riggings)), (q_t_lesserSums, .inl (cI, 241, .inl t_lesserSums))]) (ws' := [(q_t, .inr (5, [.ref q_t_lengths, .ref q_t_riggings, .ref q_t_lesserSums, .int t_size, .int t_boxesRead])), (q_t_lengths, .inl (cI, 240, .inl t_lengths)), (q_t_riggings, .inl (cI, 240, .inl t_riggings)), (q_t_lesserSums, .inl (cI, 241, .inl t_lesserSums))]) hA hw [0] [1, 2, 3] [3, 0, 1, 2] rfl rfl rfl (by decide) rfl rfl (va_runV (As := [.int r1]) (rest := []) S (c_X5_isString l D cI cZ cJ cO _ q_t q_t_lengths q_t_riggings q_t_lesserSums N r1 t_size t_boxesRead r4 h5) (cwV 1 hts gX5_takeBall_X5_isString rfl rfl rfl (by decide +kernel) ⟨Nat.le_of_ble_eq_true rfl, Nat.le_of_ble_eq_true rfl⟩) (pre_V hK hN hw [0] rfl rfl (C := RX5) (T := TX5) (N := 5) (ci := 5) (q0 := 0) rfl rfl) rfl rfl hl.1 rfl (lv_room (Nat.le_of_ble_eq_true rfl)) dX5_takeBall_18 ⟨Nat.zero_le _, Nat.zero_le _⟩) (fun H locs hw => ?_)
    refine lv_if_ne (tgt := 25) hx hb dX5_takeBall_21 (by decide) (fun c6 => ?_) (fun c6 => ?_)
    · have hf := (if_neg c6).symm.trans hf
      refine lv_aload_n hx hb dX5_takeBall_25 rfl (lv_at hl 1 rfl) ?_
      refine g_get (ci := 5) (C := RX5) (T := TX5) (N := 5) S hinX5 hK hw 0 0 k9 dX5_takeBall_26 rfl rfl (by decide) rfl ?_
      refine lv_iload_n hx hb dX5_takeBall_29 rfl (lv_at hl 0 rfl) ?_
      refine lv_dup2_11 hx hb dX5_takeBall_30 rfl rfl ?_
      obtain ⟨b7, hf⟩ := ck_some hf
      refine g_iald S hK hw 1 0 b7 dX5_takeBall_31 rfl rfl ?_
      refine lv_iconst (v := (1 : Int32)) hx hb dX5_takeBall_32 (by decide) ?_
      refine lv_iadd hx hb dX5_takeBall_33 ?_
      obtain ⟨b8, hf⟩ := ck_some hf
      refine g_iast (ws' := [(q_t, .inr (5, [.ref q_t_lengths, .ref q_t_riggings, .ref q_t_lesserSums, .int t_size, .int t_boxesRead])), (q_t_lengths, .inl (cI, 240, .inl (upd t_lengths r1.toNatClampNeg ((t_lengths r1.toNatClampNeg) + (1 : Int32))))), (q_t_riggings, .inl (cI, 240, .inl t_riggings)), (q_t_lesserSums, .inl (cI, 241, .inl t_lesserSums))]) S hK hw 1 0 b8 dX5_takeBall_34 rfl rfl rfl (fun H locs hw => ?_)
      refine lv_aload_n hx hb dX5_takeBall_35 rfl (lv_at hl 1 rfl) ?_
      refine lv_aload_n hx hb dX5_takeBall_36 rfl (lv_at hl 1 rfl) ?_
      refine g_get (ci := 5) (C := RX5) (T := TX5) (N := 5) S hinX5 hK hw 0 0 k9 dX5_takeBall_37 rfl rfl (by decide) rfl ?_
      refine lv_iload_n hx hb dX5_takeBall_40 rfl (lv_at hl 0 rfl) ?_
      obtain ⟨b9, hf⟩ := ck_some hf
      refine g_iald S hK hw 1 0 b9 dX5_takeBall_41 rfl rfl ?_
      refine lv_iconst (v := (1 : Int32)) hx hb dX5_takeBall_42 (by decide) ?_
      obtain ⟨u10, h11, hf⟩ := bd1_some hf
      refine cl_v (wr := [(q_t_lengths, .inl (cI, 240, .inl (upd t_lengths r1.toNatClampNeg ((t_lengths r1.toNatClampNeg) + (1 : Int32))))), (q_t_riggings, .inl (cI, 240, .inl t_riggings))]) (ws' := [(q_t, .inr (5, [.ref q_t_lengths, .ref q_t_riggings, .ref q_t_lesserSums, .int t_size, .int t_boxesRead])), (q_t_lengths, .inl (cI, 240, .inl (upd t_lengths r1.toNatClampNeg ((t_lengths r1.toNatClampNeg) + (1 : Int32))))), (q_t_riggings, .inl (cI, 240, .inl t_riggings)), (q_t_lesserSums, .inl (cI, 241, .inl u10))]) hA hw [0, 3] [1, 2] [2, 0, 1, 3] rfl rfl rfl (by decide) rfl rfl (va_runV (As := [.int ((upd t_lengths r1.toNatClampNeg ((t_lengths r1.toNatClampNeg) + (1 : Int32))) r1.toNatClampNeg), .int (1 : Int32)]) (rest := []) S (c_X5_addToSums l D cI cZ cJ cO _ q_t q_t_lengths q_t_riggings q_t_lesserSums N ((upd t_lengths r1.toNatClampNeg ((t_lengths r1.toNatClampNeg) + (1 : Int32))) r1.toNatClampNeg) (1 : Int32) t_size t_boxesRead t_lesserSums u10 h11) (cwV 2 hts gX5_takeBall_X5_addToSums rfl rfl rfl (by decide +kernel) ⟨Nat.le_of_ble_eq_true rfl, Nat.le_of_ble_eq_true rfl⟩) (pre_V hK hN hw [0, 3] rfl rfl (C := RX5) (T := TX5) (N := 5) (ci := 5) (q0 := 0) rfl rfl) rfl rfl hl.1 rfl (lv_room (Nat.le_of_ble_eq_true rfl)) dX5_takeBall_43 ⟨Nat.zero_le _, Nat.zero_le _⟩) (fun H locs hw => ?_)
      refine lv_aload_n hx hb dX5_takeBall_46 rfl (lv_at hl 1 rfl) ?_
      refine g_get (ci := 5) (C := RX5) (T := TX5) (N := 5) S hinX5 hK hw 0 1 k15 dX5_takeBall_47 rfl rfl (by decide) rfl ?_
      refine lv_iload_n hx hb dX5_takeBall_50 rfl (lv_at hl 0 rfl) ?_
      refine lv_aload_n hx hb dX5_takeBall_51 rfl (lv_at hl 1 rfl) ?_
      refine lv_aload_n hx hb dX5_takeBall_52 rfl (lv_at hl 1 rfl) ?_
      refine g_get (ci := 5) (C := RX5) (T := TX5) (N := 5) S hinX5 hK hw 0 0 k9 dX5_takeBall_53 rfl rfl (by decide) rfl ?_
      refine lv_iload_n hx hb dX5_takeBall_56 rfl (lv_at hl 0 rfl) ?_
      obtain ⟨b12, hf⟩ := ck_some hf
      refine g_iald S hK hw 1 0 b12 dX5_takeBall_57 rfl rfl ?_
      refine lv_iload_n hx hb dX5_takeBall_58 rfl (lv_at hl 2 rfl) ?_
      refine lv_iconst (v := (1 : Int32)) hx hb dX5_takeBall_59 (by decide) ?_
      refine lv_iadd hx hb dX5_takeBall_60 ?_
      obtain ⟨r13, h14, hf⟩ := bd1_some hf
      refine cl_i (wr := [(q_t_lengths, .inl (cI, 240, .inl (upd t_lengths r1.toNatClampNeg ((t_lengths r1.toNatClampNeg) + (1 : Int32))))), (q_t_riggings, .inl (cI, 240, .inl t_riggings))]) (ws' := [(q_t, .inr (5, [.ref q_t_lengths, .ref q_t_riggings, .ref q_t_lesserSums, .int t_size, .int t_boxesRead])), (q_t_lengths, .inl (cI, 240, .inl (upd t_lengths r1.toNatClampNeg ((t_lengths r1.toNatClampNeg) + (1 : Int32))))), (q_t_riggings, .inl (cI, 240, .inl t_riggings)), (q_t_lesserSums, .inl (cI, 241, .inl u10))]) hA hw [0, 3] [1, 2] [2, 0, 1, 3] rfl rfl rfl (by decide) rfl rfl (va_runV (As := [.int ((upd t_lengths r1.toNatClampNeg ((t_lengths r1.toNatClampNeg) + (1 : Int32))) r1.toNatClampNeg), .int (p1 + (1 : Int32))]) (rest := [.int r1, .ref q_t_riggings]) S (c_X5_roomLeft l D cI cZ cJ cO _ q_t q_t_lengths q_t_riggings q_t_lesserSums N ((upd t_lengths r1.toNatClampNeg ((t_lengths r1.toNatClampNeg) + (1 : Int32))) r1.toNatClampNeg) (p1 + (1 : Int32)) t_size t_boxesRead u10 r13 h14) (cwV 2 hts gX5_takeBall_X5_roomLeft rfl rfl rfl (by decide +kernel) ⟨Nat.le_of_ble_eq_true rfl, Nat.le_of_ble_eq_true rfl⟩) (pre_V hK hN hw [0, 3] rfl rfl (C := RX5) (T := TX5) (N := 5) (ci := 5) (q0 := 0) rfl rfl) rfl rfl hl.1 rfl (lv_room (Nat.le_of_ble_eq_true rfl)) dX5_takeBall_61 ⟨Nat.zero_le _, Nat.zero_le _⟩) (fun H locs hw => ?_)
      obtain ⟨b15, hf⟩ := ck_some hf
      refine g_iast (ws' := [(q_t, .inr (5, [.ref q_t_lengths, .ref q_t_riggings, .ref q_t_lesserSums, .int t_size, .int t_boxesRead])), (q_t_lengths, .inl (cI, 240, .inl (upd t_lengths r1.toNatClampNeg ((t_lengths r1.toNatClampNeg) + (1 : Int32))))), (q_t_riggings, .inl (cI, 240, .inl (upd t_riggings r1.toNatClampNeg r13))), (q_t_lesserSums, .inl (cI, 241, .inl u10))]) S hK hw 2 0 b15 dX5_takeBall_64 rfl rfl rfl (fun H locs hw => ?_)
      obtain ⟨rfl, rfl, rfl, rfl⟩ := pr4 (Option.some.inj hf)
      exact rt_v S hr hlk hw dX5_takeBall_65
    · have hf := (if_pos c6).symm.trans hf
      obtain ⟨rfl, rfl, rfl, rfl⟩ := pr4 (Option.some.inj hf)
      exact rt_v S hr hlk hw dX5_takeBall_24
  · have hf := (if_pos c3).symm.trans hf
    refine lv_aload_n hx hb dX5_takeBall_11 rfl (lv_at hl 1 rfl) ?_
    obtain ⟨r16, u17, u18, h19, hf⟩ := bd3_some hf
    refine cl_i (wr := [(q_t_riggings, .inl (cI, 240, .inl t_riggings)), (q_t_lesserSums, .inl (cI, 241, .inl t_lesserSums))]) (ws' := [(q_t, .inr (5, [.ref q_t_lengths, .ref q_t_riggings, .ref q_t_lesserSums, .int u17, .int t_boxesRead])), (q_t_lengths, .inl (cI, 240, .inl u18)), (q_t_riggings, .inl (cI, 240, .inl t_riggings)), (q_t_lesserSums, .inl (cI, 241, .inl t_lesserSums))]) hA hw [0, 1] [2, 3] [2, 3, 0, 1] rfl rfl rfl (by decide) rfl rfl (va_runV (As := []) (rest := []) S (c_X5_addString l D cI cZ cJ cO _ q_t q_t_lengths q_t_riggings q_t_lesserSums N t_size t_boxesRead t_lengths r16 u17 u18 h19) (cwV 0 hts gX5_takeBall_X5_addString rfl rfl rfl (by decide +kernel) ⟨Nat.le_of_ble_eq_true rfl, Nat.le_of_ble_eq_true rfl⟩) (pre_V hK hN hw [0, 1] rfl rfl (C := RX5) (T := TX5) (N := 5) (ci := 5) (q0 := 0) rfl rfl) rfl rfl hl.1 rfl (lv_room (Nat.le_of_ble_eq_true rfl)) dX5_takeBall_12 ⟨Nat.zero_le _, Nat.zero_le _⟩) (fun H locs hw => ?_)
    refine lv_istore_n (lv' := [(2, .int r16), (0, .ref q_t), (1, .int p1)]) hx hb dX5_takeBall_15 rfl hl (by decide) rfl (fun ls hl => ?_)
    refine lv_aload_n hx hb dX5_takeBall_16 rfl (lv_at hl 1 rfl) ?_
    refine lv_iload_n hx hb dX5_takeBall_17 rfl (lv_at hl 0 rfl) ?_
    obtain ⟨r20, h21, hf⟩ := bd1_some hf
    refine cl_i (wr := [(q_t_lengths, .inl (cI, 240, .inl u18)), (q_t_riggings, .inl (cI, 240, .inl t_riggings)), (q_t_lesserSums, .inl (cI, 241, .inl t_lesserSums))]) (ws' := [(q_t, .inr (5, [.ref q_t_lengths, .ref q_t_riggings, .ref q_t_lesserSums, .int u17, .int t_boxesRead])), (q_t_lengths, .inl (cI, 240, .inl u18)), (q_t_riggings, .inl (cI, 240, .inl t_riggings)), (q_t_lesserSums, .inl (cI, 241, .inl t_lesserSums))]) hA hw [0] [1, 2, 3] [3, 0, 1, 2] rfl rfl rfl (by decide) rfl rfl (va_runV (As := [.int r16]) (rest := []) S (c_X5_isString l D cI cZ cJ cO _ q_t q_t_lengths q_t_riggings q_t_lesserSums N r16 u17 t_boxesRead r20 h21) (cwV 1 hts gX5_takeBall_X5_isString rfl rfl rfl (by decide +kernel) ⟨Nat.le_of_ble_eq_true rfl, Nat.le_of_ble_eq_true rfl⟩) (pre_V hK hN hw [0] rfl rfl (C := RX5) (T := TX5) (N := 5) (ci := 5) (q0 := 0) rfl rfl) rfl rfl hl.1 rfl (lv_room (Nat.le_of_ble_eq_true rfl)) dX5_takeBall_18 ⟨Nat.zero_le _, Nat.zero_le _⟩) (fun H locs hw => ?_)
    refine lv_if_ne (tgt := 25) hx hb dX5_takeBall_21 (by decide) (fun c22 => ?_) (fun c22 => ?_)
    · have hf := (if_neg c22).symm.trans hf
      refine lv_aload_n hx hb dX5_takeBall_25 rfl (lv_at hl 1 rfl) ?_
      refine g_get (ci := 5) (C := RX5) (T := TX5) (N := 5) S hinX5 hK hw 0 0 k9 dX5_takeBall_26 rfl rfl (by decide) rfl ?_
      refine lv_iload_n hx hb dX5_takeBall_29 rfl (lv_at hl 0 rfl) ?_
      refine lv_dup2_11 hx hb dX5_takeBall_30 rfl rfl ?_
      obtain ⟨b23, hf⟩ := ck_some hf
      refine g_iald S hK hw 1 0 b23 dX5_takeBall_31 rfl rfl ?_
      refine lv_iconst (v := (1 : Int32)) hx hb dX5_takeBall_32 (by decide) ?_
      refine lv_iadd hx hb dX5_takeBall_33 ?_
      obtain ⟨b24, hf⟩ := ck_some hf
      refine g_iast (ws' := [(q_t, .inr (5, [.ref q_t_lengths, .ref q_t_riggings, .ref q_t_lesserSums, .int u17, .int t_boxesRead])), (q_t_lengths, .inl (cI, 240, .inl (upd u18 r16.toNatClampNeg ((u18 r16.toNatClampNeg) + (1 : Int32))))), (q_t_riggings, .inl (cI, 240, .inl t_riggings)), (q_t_lesserSums, .inl (cI, 241, .inl t_lesserSums))]) S hK hw 1 0 b24 dX5_takeBall_34 rfl rfl rfl (fun H locs hw => ?_)
      refine lv_aload_n hx hb dX5_takeBall_35 rfl (lv_at hl 1 rfl) ?_
      refine lv_aload_n hx hb dX5_takeBall_36 rfl (lv_at hl 1 rfl) ?_
      refine g_get (ci := 5) (C := RX5) (T := TX5) (N := 5) S hinX5 hK hw 0 0 k9 dX5_takeBall_37 rfl rfl (by decide) rfl ?_
      refine lv_iload_n hx hb dX5_takeBall_40 rfl (lv_at hl 0 rfl) ?_
      obtain ⟨b25, hf⟩ := ck_some hf
      refine g_iald S hK hw 1 0 b25 dX5_takeBall_41 rfl rfl ?_
      refine lv_iconst (v := (1 : Int32)) hx hb dX5_takeBall_42 (by decide) ?_
      obtain ⟨u26, h27, hf⟩ := bd1_some hf
      refine cl_v (wr := [(q_t_lengths, .inl (cI, 240, .inl (upd u18 r16.toNatClampNeg ((u18 r16.toNatClampNeg) + (1 : Int32))))), (q_t_riggings, .inl (cI, 240, .inl t_riggings))]) (ws' := [(q_t, .inr (5, [.ref q_t_lengths, .ref q_t_riggings, .ref q_t_lesserSums, .int u17, .int t_boxesRead])), (q_t_lengths, .inl (cI, 240, .inl (upd u18 r16.toNatClampNeg ((u18 r16.toNatClampNeg) + (1 : Int32))))), (q_t_riggings, .inl (cI, 240, .inl t_riggings)), (q_t_lesserSums, .inl (cI, 241, .inl u26))]) hA hw [0, 3] [1, 2] [2, 0, 1, 3] rfl rfl rfl (by decide) rfl rfl (va_runV (As := [.int ((upd u18 r16.toNatClampNeg ((u18 r16.toNatClampNeg) + (1 : Int32))) r16.toNatClampNeg), .int (1 : Int32)]) (rest := []) S (c_X5_addToSums l D cI cZ cJ cO _ q_t q_t_lengths q_t_riggings q_t_lesserSums N ((upd u18 r16.toNatClampNeg ((u18 r16.toNatClampNeg) + (1 : Int32))) r16.toNatClampNeg) (1 : Int32) u17 t_boxesRead t_lesserSums u26 h27) (cwV 2 hts gX5_takeBall_X5_addToSums rfl rfl rfl (by decide +kernel) ⟨Nat.le_of_ble_eq_true rfl, Nat.le_of_ble_eq_true rfl⟩) (pre_V hK hN hw [0, 3] rfl rfl (C := RX5) (T := TX5) (N := 5) (ci := 5) (q0 := 0) rfl rfl) rfl rfl hl.1 rfl (lv_room (Nat.le_of_ble_eq_true rfl)) dX5_takeBall_43 ⟨Nat.zero_le _, Nat.zero_le _⟩) (fun H locs hw => ?_)
      refine lv_aload_n hx hb dX5_takeBall_46 rfl (lv_at hl 1 rfl) ?_
      refine g_get (ci := 5) (C := RX5) (T := TX5) (N := 5) S hinX5 hK hw 0 1 k15 dX5_takeBall_47 rfl rfl (by decide) rfl ?_
      refine lv_iload_n hx hb dX5_takeBall_50 rfl (lv_at hl 0 rfl) ?_
      refine lv_aload_n hx hb dX5_takeBall_51 rfl (lv_at hl 1 rfl) ?_
      refine lv_aload_n hx hb dX5_takeBall_52 rfl (lv_at hl 1 rfl) ?_
      refine g_get (ci := 5) (C := RX5) (T := TX5) (N := 5) S hinX5 hK hw 0 0 k9 dX5_takeBall_53 rfl rfl (by decide) rfl ?_
      refine lv_iload_n hx hb dX5_takeBall_56 rfl (lv_at hl 0 rfl) ?_
      obtain ⟨b28, hf⟩ := ck_some hf
      refine g_iald S hK hw 1 0 b28 dX5_takeBall_57 rfl rfl ?_
      refine lv_iload_n hx hb dX5_takeBall_58 rfl (lv_at hl 2 rfl) ?_
      refine lv_iconst (v := (1 : Int32)) hx hb dX5_takeBall_59 (by decide) ?_
      refine lv_iadd hx hb dX5_takeBall_60 ?_
      obtain ⟨r29, h30, hf⟩ := bd1_some hf
      refine cl_i (wr := [(q_t_lengths, .inl (cI, 240, .inl (upd u18 r16.toNatClampNeg ((u18 r16.toNatClampNeg) + (1 : Int32))))), (q_t_riggings, .inl (cI, 240, .inl t_riggings))]) (ws' := [(q_t, .inr (5, [.ref q_t_lengths, .ref q_t_riggings, .ref q_t_lesserSums, .int u17, .int t_boxesRead])), (q_t_lengths, .inl (cI, 240, .inl (upd u18 r16.toNatClampNeg ((u18 r16.toNatClampNeg) + (1 : Int32))))), (q_t_riggings, .inl (cI, 240, .inl t_riggings)), (q_t_lesserSums, .inl (cI, 241, .inl u26))]) hA hw [0, 3] [1, 2] [2, 0, 1, 3] rfl rfl rfl (by decide) rfl rfl (va_runV (As := [.int ((upd u18 r16.toNatClampNeg ((u18 r16.toNatClampNeg) + (1 : Int32))) r16.toNatClampNeg), .int (p1 + (1 : Int32))]) (rest := [.int r16, .ref q_t_riggings]) S (c_X5_roomLeft l D cI cZ cJ cO _ q_t q_t_lengths q_t_riggings q_t_lesserSums N ((upd u18 r16.toNatClampNeg ((u18 r16.toNatClampNeg) + (1 : Int32))) r16.toNatClampNeg) (p1 + (1 : Int32)) u17 t_boxesRead u26 r29 h30) (cwV 2 hts gX5_takeBall_X5_roomLeft rfl rfl rfl (by decide +kernel) ⟨Nat.le_of_ble_eq_true rfl, Nat.le_of_ble_eq_true rfl⟩) (pre_V hK hN hw [0, 3] rfl rfl (C := RX5) (T := TX5) (N := 5) (ci := 5) (q0 := 0) rfl rfl) rfl rfl hl.1 rfl (lv_room (Nat.le_of_ble_eq_true rfl)) dX5_takeBall_61 ⟨Nat.zero_le _, Nat.zero_le _⟩) (fun H locs hw => ?_)
      obtain ⟨b31, hf⟩ := ck_some hf
      refine g_iast (ws' := [(q_t, .inr (5, [.ref q_t_lengths, .ref q_t_riggings, .ref q_t_lesserSums, .int u17, .int t_boxesRead])), (q_t_lengths, .inl (cI, 240, .inl (upd u18 r16.toNatClampNeg ((u18 r16.toNatClampNeg) + (1 : Int32))))), (q_t_riggings, .inl (cI, 240, .inl (upd t_riggings r16.toNatClampNeg r29))), (q_t_lesserSums, .inl (cI, 241, .inl u26))]) S hK hw 2 0 b31 dX5_takeBall_64 rfl rfl rfl (fun H locs hw => ?_)
      obtain ⟨rfl, rfl, rfl, rfl⟩ := pr4 (Option.some.inj hf)
      exact rt_v S hr hlk hw dX5_takeBall_65
    · have hf := (if_pos c22).symm.trans hf
      obtain ⟨rfl, rfl, rfl, rfl⟩ := pr4 (Option.some.inj hf)
      exact rt_v S hr hlk hw dX5_takeBall_24

def L_X5_readFrom_6 (N : Nat) (x2 : Int32) (a1_boxes : (Nat → Int32)) (K : Int32 → (Nat → Int32) → (Nat → Int32) → (Nat → Int32) → Option (Int32 × Int32 × (Nat → Int32) × (Nat → Int32) × (Nat → Int32))) : Nat → Int32 → Int32 → (Nat → Int32) → (Nat → Int32) → (Nat → Int32) → Option (Int32 × Int32 × (Nat → Int32) × (Nat → Int32) × (Nat → Int32))
  | 0, _, _, _, _, _ => none
  | n + 1, x3, w_t_size, w_t_lengths, w_t_riggings, w_t_lesserSums => (if x2 ≤ x3 then (K w_t_size w_t_lengths w_t_riggings w_t_lesserSums) else (bd1 (f_X3_ballAt N x3 a1_boxes) (fun r5 => (if r5 = (0 : Int32) then (L_X5_readFrom_6 N x2 a1_boxes K n (x3 + (1 : Int32)) w_t_size w_t_lengths w_t_riggings w_t_lesserSums) else (bd4 (f_X5_takeBall N x3 w_t_size w_t_lengths w_t_riggings w_t_lesserSums) (fun u8 u9 u10 u11 => (L_X5_readFrom_6 N x2 a1_boxes K n (x3 + (1 : Int32)) u8 u9 u10 u11)))))))

def f_X5_readFrom (N : Nat) (p2 : Int32) (t_size : Int32) (t_boxesRead : Int32) (t_lengths : (Nat → Int32)) (t_riggings : (Nat → Int32)) (t_lesserSums : (Nat → Int32)) (a1_boxes : (Nat → Int32)) : Option (Int32 × Int32 × (Nat → Int32) × (Nat → Int32) × (Nat → Int32)) :=
  (bd2 (f_X5_clear N t_size t_lesserSums) (fun u1 u2 => (L_X5_readFrom_6 N p2 a1_boxes (fun u13 u14 u15 u16 => (some (u13, p2, u14, u15, u16))) N (0 : Int32) u1 t_lengths t_riggings u2)))

set_option maxHeartbeats 4000000 in
set_option maxRecDepth 100000 in
theorem c_X5_readFrom (l : Launch) (D : va_G) (cI cZ cJ cO : ClassId) (sz : Nat) (q_t q_t_lengths q_t_riggings q_t_lesserSums q_a1 q_a1_boxes q_a1_made : Nat) (N : Nat) (p2 : Int32) (t_size : Int32) (t_boxesRead : Int32) (t_lengths : (Nat → Int32)) (t_riggings : (Nat → Int32)) (t_lesserSums : (Nat → Int32)) (a1_boxes : (Nat → Int32)) (o_t_size : Int32) (o_t_boxesRead : Int32) (o_t_lengths : (Nat → Int32)) (o_t_riggings : (Nat → Int32)) (o_t_lesserSums : (Nat → Int32)) (hf : f_X5_readFrom N p2 t_size t_boxesRead t_lengths t_riggings t_lesserSums a1_boxes = some (o_t_size, o_t_boxesRead, o_t_lengths, o_t_riggings, o_t_lesserSums)) : Met l yX5_readFrom wsX5_readFrom ({ frames := 5, cells := 0, slots := 0, locals := 109 }) (PreC D (TY cI cZ cJ cO) [.ref q_t, .ref q_a1, .int p2] [(q_t, .inr (5, [.ref q_t_lengths, .ref q_t_riggings, .ref q_t_lesserSums, .int t_size, .int t_boxesRead])), (q_t_lengths, .inl (cI, 240, .inl t_lengths)), (q_t_riggings, .inl (cI, 240, .inl t_riggings)), (q_t_lesserSums, .inl (cI, 241, .inl t_lesserSums)), (q_a1, .inr (3, [.ref q_a1_boxes, .ref q_a1_made])), (q_a1_boxes, .inl (cI, 240, .inl a1_boxes))] sz) (QcV D [(q_t, .inr (5, [.ref q_t_lengths, .ref q_t_riggings, .ref q_t_lesserSums, .int o_t_size, .int o_t_boxesRead])), (q_t_lengths, .inl (cI, 240, .inl o_t_lengths)), (q_t_riggings, .inl (cI, 240, .inl o_t_riggings)), (q_t_lesserSums, .inl (cI, 241, .inl o_t_lesserSums)), (q_a1, .inr (3, [.ref q_a1_boxes, .ref q_a1_made])), (q_a1_boxes, .inl (cI, 240, .inl a1_boxes))] (va_A [(q_t, .inr (5, [.ref q_t_lengths, .ref q_t_riggings, .ref q_t_lesserSums, .int t_size, .int t_boxesRead])), (q_t_lengths, .inl (cI, 240, .inl t_lengths)), (q_t_riggings, .inl (cI, 240, .inl t_riggings)), (q_t_lesserSums, .inl (cI, 241, .inl t_lesserSums)), (q_a1, .inr (3, [.ref q_a1_boxes, .ref q_a1_made])), (q_a1_boxes, .inl (cI, 240, .inl a1_boxes))] sz)) 0 0 (va_A [(q_t, .inr (5, [.ref q_t_lengths, .ref q_t_riggings, .ref q_t_lesserSums, .int t_size, .int t_boxesRead])), (q_t_lengths, .inl (cI, 240, .inl t_lengths)), (q_t_riggings, .inl (cI, 240, .inl t_riggings)), (q_t_lesserSums, .inl (cI, 241, .inl t_lesserSums)), (q_a1, .inr (3, [.ref q_a1_boxes, .ref q_a1_made])), (q_a1_boxes, .inl (cI, 240, .inl a1_boxes))] sz) := by
  refine ctr (cc := cX5_readFrom) (maxL := 4) (ret := none) (by decide) rfl (Nat.le_of_ble_eq_true rfl) ?_
  intro p e s m below meth c S hr hlk hnm hK hN hsz hA hw ls hl
  generalize va_A [(q_t, .inr (5, [.ref q_t_lengths, .ref q_t_riggings, .ref q_t_lesserSums, .int t_size, .int t_boxesRead])), (q_t_lengths, .inl (cI, 240, .inl t_lengths)), (q_t_riggings, .inl (cI, 240, .inl t_riggings)), (q_t_lesserSums, .inl (cI, 241, .inl t_lesserSums)), (q_a1, .inr (3, [.ref q_a1_boxes, .ref q_a1_made])), (q_a1_boxes, .inl (cI, 240, .inl a1_boxes))] sz = A at hA hw ⊢
  have S : CallFix p m c cX5_readFrom 4 s ([.ref q_t, .ref q_a1, .int p2] : List Value).toArray wsX5_readFrom RX5 := S
  have hx := S.1
  have hb := S.2.1
  have hts := S.2.2.2.2
  have hl : lv_has ls 4 [(0, .ref q_t), (1, .ref q_a1), (2, .int p2)] := hl
  have hinX5 : ∀ w ∈ u_ws RX5 TX5 5, w ∈ wsX5_readFrom := by decide +kernel
  have k42 : Cond.fieldLink RX5 42 "BallBoxes$Strings" "boxesRead" "I" ∈ wsX5_readFrom := by decide +kernel
  have Lp6 : ∀ (x2 : Int32) (w_t_boxesRead : Int32) (K : Int32 → (Nat → Int32) → (Nat → Int32) → (Nat → Int32) → Option (Int32 × Int32 × (Nat → Int32) × (Nat → Int32) × (Nat → Int32))), (∀ (z_t_size : Int32) (z_t_lengths : (Nat → Int32)) (z_t_riggings : (Nat → Int32)) (z_t_lesserSums : (Nat → Int32)) (H : Heap) (locs : List Loc) (ls : Array Slot), Wd D A s.heap [(q_t, .inr (5, [.ref q_t_lengths, .ref q_t_riggings, .ref q_t_lesserSums, .int z_t_size, .int w_t_boxesRead])), (q_t_lengths, .inl (cI, 240, .inl z_t_lengths)), (q_t_riggings, .inl (cI, 240, .inl z_t_riggings)), (q_t_lesserSums, .inl (cI, 241, .inl z_t_lesserSums)), (q_a1, .inr (3, [.ref q_a1_boxes, .ref q_a1_made])), (q_a1_boxes, .inl (cI, 240, .inl a1_boxes))] H locs → lv_has ls 4 [(0, .ref q_t), (2, .int x2)] → K z_t_size z_t_lengths z_t_riggings z_t_lesserSums = some (o_t_size, o_t_boxesRead, o_t_lengths, o_t_riggings, o_t_lesserSums) → W p l e ({ frames := 5, cells := 0, slots := 0, locals := 109 } : Room) s m ([.ref q_t, .ref q_a1, .int p2] : List Value).toArray below meth c H locs 0 0 (MQ below (QcV D [(q_t, .inr (5, [.ref q_t_lengths, .ref q_t_riggings, .ref q_t_lesserSums, .int o_t_size, .int o_t_boxesRead])), (q_t_lengths, .inl (cI, 240, .inl o_t_lengths)), (q_t_riggings, .inl (cI, 240, .inl o_t_riggings)), (q_t_lesserSums, .inl (cI, 241, .inl o_t_lesserSums)), (q_a1, .inr (3, [.ref q_a1_boxes, .ref q_a1_made])), (q_a1_boxes, .inl (cI, 240, .inl a1_boxes))] A) ([.ref q_t, .ref q_a1, .int p2] : List Value).toArray s 0 0 A) (F0 m 30 ls [])) → ∀ (n : Nat) (x3 : Int32) (w_t_size : Int32) (w_t_lengths : (Nat → Int32)) (w_t_riggings : (Nat → Int32)) (w_t_lesserSums : (Nat → Int32)) (H : Heap) (locs : List Loc) (ls : Array Slot), Wd D A s.heap [(q_t, .inr (5, [.ref q_t_lengths, .ref q_t_riggings, .ref q_t_lesserSums, .int w_t_size, .int w_t_boxesRead])), (q_t_lengths, .inl (cI, 240, .inl w_t_lengths)), (q_t_riggings, .inl (cI, 240, .inl w_t_riggings)), (q_t_lesserSums, .inl (cI, 241, .inl w_t_lesserSums)), (q_a1, .inr (3, [.ref q_a1_boxes, .ref q_a1_made])), (q_a1_boxes, .inl (cI, 240, .inl a1_boxes))] H locs → lv_has ls 4 [(0, .ref q_t), (1, .ref q_a1), (2, .int x2), (3, .int x3)] → L_X5_readFrom_6 N x2 a1_boxes K n x3 w_t_size w_t_lengths w_t_riggings w_t_lesserSums = some (o_t_size, o_t_boxesRead, o_t_lengths, o_t_riggings, o_t_lesserSums) → W p l e ({ frames := 5, cells := 0, slots := 0, locals := 109 } : Room) s m ([.ref q_t, .ref q_a1, .int p2] : List Value).toArray below meth c H locs 0 0 (MQ below (QcV D [(q_t, .inr (5, [.ref q_t_lengths, .ref q_t_riggings, .ref q_t_lesserSums, .int o_t_size, .int o_t_boxesRead])), (q_t_lengths, .inl (cI, 240, .inl o_t_lengths)), (q_t_riggings, .inl (cI, 240, .inl o_t_riggings)), (q_t_lesserSums, .inl (cI, 241, .inl o_t_lesserSums)), (q_a1, .inr (3, [.ref q_a1_boxes, .ref q_a1_made])), (q_a1_boxes, .inl (cI, 240, .inl a1_boxes))] A) ([.ref q_t, .ref q_a1, .int p2] : List Value).toArray s 0 0 A) (F0 m 6 ls []) := by
    intro x2 w_t_boxesRead K hKx n
    induction n with
    | zero =>
      intro x3 w_t_size w_t_lengths w_t_riggings w_t_lesserSums H locs ls hw hl hf
      rw [L_X5_readFrom_6] at hf
      cases hf
    | succ n ih =>
      intro x3 w_t_size w_t_lengths w_t_riggings w_t_lesserSums H locs ls hw hl hf
      rw [L_X5_readFrom_6] at hf
      refine lv_iload_n hx hb dX5_readFrom_6 rfl (lv_at hl 3 rfl) ?_
      refine lv_iload_n hx hb dX5_readFrom_7 rfl (lv_at hl 2 rfl) ?_
      refine lv_icmp_ge (tgt := 30) hx hb dX5_readFrom_8 (by decide) (fun c4 => ?_) (fun c4 => ?_)
      · have hf := (if_pos c4).symm.trans hf
        exact hKx w_t_size w_t_lengths w_t_riggings w_t_lesserSums _ _ _ hw (lv_sub hl [0, 2] rfl) hf
      · have hf := (if_neg c4).symm.trans hf
        refine lv_aload_n hx hb dX5_readFrom_11 rfl (lv_at hl 1 rfl) ?_
        refine lv_iload_n hx hb dX5_readFrom_12 rfl (lv_at hl 3 rfl) ?_
        obtain ⟨r5, h6, hf⟩ := bd1_some hf
        refine cl_i (wr := [(q_t, .inr (5, [.ref q_t_lengths, .ref q_t_riggings, .ref q_t_lesserSums, .int w_t_size, .int w_t_boxesRead])), (q_t_lengths, .inl (cI, 240, .inl w_t_lengths)), (q_t_riggings, .inl (cI, 240, .inl w_t_riggings)), (q_t_lesserSums, .inl (cI, 241, .inl w_t_lesserSums))]) (ws' := [(q_t, .inr (5, [.ref q_t_lengths, .ref q_t_riggings, .ref q_t_lesserSums, .int w_t_size, .int w_t_boxesRead])), (q_t_lengths, .inl (cI, 240, .inl w_t_lengths)), (q_t_riggings, .inl (cI, 240, .inl w_t_riggings)), (q_t_lesserSums, .inl (cI, 241, .inl w_t_lesserSums)), (q_a1, .inr (3, [.ref q_a1_boxes, .ref q_a1_made])), (q_a1_boxes, .inl (cI, 240, .inl a1_boxes))]) hA hw [4, 5] [0, 1, 2, 3] [0, 1, 2, 3, 4, 5] rfl rfl rfl (by decide) rfl rfl (va_runV (As := [.int x3]) (rest := []) S (c_X3_ballAt l D cI cZ cJ cO _ q_a1 q_a1_boxes q_a1_made N x3 a1_boxes r5 h6) (cwV 1 hts gX5_readFrom_X3_ballAt rfl rfl rfl (by decide +kernel) ⟨Nat.le_of_ble_eq_true rfl, Nat.le_of_ble_eq_true rfl⟩) (pre_V hK hN hw [4, 5] rfl rfl (C := RX3) (T := TX3) (N := 2) (ci := 3) (q0 := 0) rfl rfl) rfl rfl hl.1 rfl (lv_room (Nat.le_of_ble_eq_true rfl)) dX5_readFrom_13 ⟨Nat.zero_le _, Nat.zero_le _⟩) (fun H locs hw => ?_)
        refine lv_if_eq (tgt := 24) hx hb dX5_readFrom_16 (by decide) (fun c7 => ?_) (fun c7 => ?_)
        · have hf := (if_pos c7).symm.trans hf
          refine lv_iinc (v := (x3 + (1 : Int32))) (lv' := [(3, .int (x3 + (1 : Int32))), (0, .ref q_t), (1, .ref q_a1), (2, .int x2)]) hx hb dX5_readFrom_24 hl (k := 3) rfl rfl (by decide) rfl (fun ls hl => ?_)
          refine lv_goto (tgt := 6) hx hb dX5_readFrom_27 (by decide) ?_
          exact ih (x3 + (1 : Int32)) w_t_size w_t_lengths w_t_riggings w_t_lesserSums _ _ _ hw (lv_sub hl [1, 2, 3, 0] rfl) hf
        · have hf := (if_neg c7).symm.trans hf
          refine lv_aload_n hx hb dX5_readFrom_19 rfl (lv_at hl 0 rfl) ?_
          refine lv_iload_n hx hb dX5_readFrom_20 rfl (lv_at hl 3 rfl) ?_
          obtain ⟨u8, u9, u10, u11, h12, hf⟩ := bd4_some hf
          refine cl_v (wr := [(q_a1, .inr (3, [.ref q_a1_boxes, .ref q_a1_made])), (q_a1_boxes, .inl (cI, 240, .inl a1_boxes))]) (ws' := [(q_t, .inr (5, [.ref q_t_lengths, .ref q_t_riggings, .ref q_t_lesserSums, .int u8, .int w_t_boxesRead])), (q_t_lengths, .inl (cI, 240, .inl u9)), (q_t_riggings, .inl (cI, 240, .inl u10)), (q_t_lesserSums, .inl (cI, 241, .inl u11)), (q_a1, .inr (3, [.ref q_a1_boxes, .ref q_a1_made])), (q_a1_boxes, .inl (cI, 240, .inl a1_boxes))]) hA hw [0, 1, 2, 3] [4, 5] [2, 3, 4, 5, 0, 1] rfl rfl rfl (by decide) rfl rfl (va_runV (As := [.int x3]) (rest := []) S (c_X5_takeBall l D cI cZ cJ cO _ q_t q_t_lengths q_t_riggings q_t_lesserSums N x3 w_t_size w_t_boxesRead w_t_lengths w_t_riggings w_t_lesserSums u8 u9 u10 u11 h12) (cwV 1 hts gX5_readFrom_X5_takeBall rfl rfl rfl (by decide +kernel) ⟨Nat.le_of_ble_eq_true rfl, Nat.le_of_ble_eq_true rfl⟩) (pre_V hK hN hw [0, 1, 2, 3] rfl rfl (C := RX5) (T := TX5) (N := 5) (ci := 5) (q0 := 0) rfl rfl) rfl rfl hl.1 rfl (lv_room (Nat.le_of_ble_eq_true rfl)) dX5_readFrom_21 ⟨Nat.zero_le _, Nat.zero_le _⟩) (fun H locs hw => ?_)
          refine lv_iinc (v := (x3 + (1 : Int32))) (lv' := [(3, .int (x3 + (1 : Int32))), (0, .ref q_t), (1, .ref q_a1), (2, .int x2)]) hx hb dX5_readFrom_24 hl (k := 3) rfl rfl (by decide) rfl (fun ls hl => ?_)
          refine lv_goto (tgt := 6) hx hb dX5_readFrom_27 (by decide) ?_
          exact ih (x3 + (1 : Int32)) u8 u9 u10 u11 _ _ _ hw (lv_sub hl [1, 2, 3, 0] rfl) hf
  unfold f_X5_readFrom at hf
  refine lv_aload_n hx hb dX5_readFrom_0 rfl (lv_at hl 0 rfl) ?_
  obtain ⟨u1, u2, h3, hf⟩ := bd2_some hf
  refine cl_v (wr := [(q_t_lengths, .inl (cI, 240, .inl t_lengths)), (q_t_riggings, .inl (cI, 240, .inl t_riggings)), (q_a1, .inr (3, [.ref q_a1_boxes, .ref q_a1_made])), (q_a1_boxes, .inl (cI, 240, .inl a1_boxes))]) (ws' := [(q_t, .inr (5, [.ref q_t_lengths, .ref q_t_riggings, .ref q_t_lesserSums, .int u1, .int t_boxesRead])), (q_t_lengths, .inl (cI, 240, .inl t_lengths)), (q_t_riggings, .inl (cI, 240, .inl t_riggings)), (q_t_lesserSums, .inl (cI, 241, .inl u2)), (q_a1, .inr (3, [.ref q_a1_boxes, .ref q_a1_made])), (q_a1_boxes, .inl (cI, 240, .inl a1_boxes))]) hA hw [0, 3] [1, 2, 4, 5] [4, 0, 1, 5, 2, 3] rfl rfl rfl (by decide) rfl rfl (va_runV (As := []) (rest := []) S (c_X5_clear l D cI cZ cJ cO _ q_t q_t_lengths q_t_riggings q_t_lesserSums N t_size t_boxesRead t_lesserSums u1 u2 h3) (cwV 0 hts gX5_readFrom_X5_clear rfl rfl rfl (by decide +kernel) ⟨Nat.le_of_ble_eq_true rfl, Nat.le_of_ble_eq_true rfl⟩) (pre_V hK hN hw [0, 3] rfl rfl (C := RX5) (T := TX5) (N := 5) (ci := 5) (q0 := 0) rfl rfl) rfl rfl hl.1 rfl (lv_room (Nat.le_of_ble_eq_true rfl)) dX5_readFrom_1 ⟨Nat.zero_le _, Nat.zero_le _⟩) (fun H locs hw => ?_)
  refine lv_iconst (v := (0 : Int32)) hx hb dX5_readFrom_4 (by decide) ?_
  refine lv_istore_n (lv' := [(3, .int (0 : Int32)), (0, .ref q_t), (1, .ref q_a1), (2, .int p2)]) hx hb dX5_readFrom_5 rfl hl (by decide) rfl (fun ls hl => ?_)
  refine Lp6 p2 t_boxesRead _ (fun u13 u14 u15 u16 H locs ls hw hl hf => ?_) N (0 : Int32) u1 t_lengths t_riggings u2 _ _ _ hw (lv_sub hl [1, 2, 3, 0] rfl) hf
  refine lv_aload_n hx hb dX5_readFrom_30 rfl (lv_at hl 0 rfl) ?_
  refine lv_iload_n hx hb dX5_readFrom_31 rfl (lv_at hl 1 rfl) ?_
  refine g_put (ci := 5) (C := RX5) (T := TX5) (N := 5) (ws' := [(q_t, .inr (5, [.ref q_t_lengths, .ref q_t_riggings, .ref q_t_lesserSums, .int u13, .int p2])), (q_t_lengths, .inl (cI, 240, .inl u14)), (q_t_riggings, .inl (cI, 240, .inl u15)), (q_t_lesserSums, .inl (cI, 241, .inl u16)), (q_a1, .inr (3, [.ref q_a1_boxes, .ref q_a1_made])), (q_a1_boxes, .inl (cI, 240, .inl a1_boxes))]) S hinX5 tyX5 tyX5_ok nmX5 hK hw 0 4 k42 dX5_readFrom_32 rfl rfl (by decide) rfl rfl rfl (Nat.le_of_ble_eq_true rfl) rfl (fun H locs hw => ?_)
  obtain ⟨rfl, rfl, rfl, rfl, rfl⟩ := pr5 (Option.some.inj hf)
  exact rt_v S hr hlk hw dX5_readFrom_35

def f_X5_swap (N : Nat) (p1 : Int32) (p2 : Int32) (t_size : Int32) (t_lengths : (Nat → Int32)) (t_riggings : (Nat → Int32)) : Option ((Nat → Int32) × (Nat → Int32)) :=
  (bd1 (f_X5_isString N p1 t_size) (fun r1 => (if r1 = (0 : Int32) then (some (t_lengths, t_riggings)) else (bd1 (f_X5_isString N p2 t_size) (fun r4 => (if r4 = (0 : Int32) then (some (t_lengths, t_riggings)) else (ck (inb p1 240) (ck (inb p1 240) (ck (inb p2 240) (ck (inb p1 240) (ck (inb p2 240) (ck (inb p1 240) (ck (inb p2 240) (ck (inb p2 240) (some ((upd (upd t_lengths p1.toNatClampNeg (t_lengths p2.toNatClampNeg)) p2.toNatClampNeg (t_lengths p1.toNatClampNeg)), (upd (upd t_riggings p1.toNatClampNeg (t_riggings p2.toNatClampNeg)) p2.toNatClampNeg (t_riggings p1.toNatClampNeg))))))))))))))))))

set_option maxHeartbeats 4000000 in
set_option maxRecDepth 100000 in
theorem c_X5_swap (l : Launch) (D : va_G) (cI cZ cJ cO : ClassId) (sz : Nat) (q_t q_t_lengths q_t_riggings q_t_lesserSums : Nat) (N : Nat) (p1 : Int32) (p2 : Int32) (t_size : Int32) (t_boxesRead : Int32) (t_lengths : (Nat → Int32)) (t_riggings : (Nat → Int32)) (o_t_lengths : (Nat → Int32)) (o_t_riggings : (Nat → Int32)) (hf : f_X5_swap N p1 p2 t_size t_lengths t_riggings = some (o_t_lengths, o_t_riggings)) : Met l yX5_swap wsX5_swap ({ frames := 1, cells := 0, slots := 0, locals := 21 }) (PreC D (TY cI cZ cJ cO) [.ref q_t, .int p1, .int p2] [(q_t, .inr (5, [.ref q_t_lengths, .ref q_t_riggings, .ref q_t_lesserSums, .int t_size, .int t_boxesRead])), (q_t_lengths, .inl (cI, 240, .inl t_lengths)), (q_t_riggings, .inl (cI, 240, .inl t_riggings))] sz) (QcV D [(q_t, .inr (5, [.ref q_t_lengths, .ref q_t_riggings, .ref q_t_lesserSums, .int t_size, .int t_boxesRead])), (q_t_lengths, .inl (cI, 240, .inl o_t_lengths)), (q_t_riggings, .inl (cI, 240, .inl o_t_riggings))] (va_A [(q_t, .inr (5, [.ref q_t_lengths, .ref q_t_riggings, .ref q_t_lesserSums, .int t_size, .int t_boxesRead])), (q_t_lengths, .inl (cI, 240, .inl t_lengths)), (q_t_riggings, .inl (cI, 240, .inl t_riggings))] sz)) 0 0 (va_A [(q_t, .inr (5, [.ref q_t_lengths, .ref q_t_riggings, .ref q_t_lesserSums, .int t_size, .int t_boxesRead])), (q_t_lengths, .inl (cI, 240, .inl t_lengths)), (q_t_riggings, .inl (cI, 240, .inl t_riggings))] sz) := by
  refine ctr (cc := cX5_swap) (maxL := 5) (ret := none) (by decide) rfl (Nat.le_of_ble_eq_true rfl) ?_
  intro p e s m below meth c S hr hlk hnm hK hN hsz hA hw ls hl
  generalize va_A [(q_t, .inr (5, [.ref q_t_lengths, .ref q_t_riggings, .ref q_t_lesserSums, .int t_size, .int t_boxesRead])), (q_t_lengths, .inl (cI, 240, .inl t_lengths)), (q_t_riggings, .inl (cI, 240, .inl t_riggings))] sz = A at hA hw ⊢
  have S : CallFix p m c cX5_swap 5 s ([.ref q_t, .int p1, .int p2] : List Value).toArray wsX5_swap RX5 := S
  have hx := S.1
  have hb := S.2.1
  have hts := S.2.2.2.2
  have hl : lv_has ls 5 [(0, .ref q_t), (1, .int p1), (2, .int p2)] := hl
  have hinX5 : ∀ w ∈ u_ws RX5 TX5 5, w ∈ wsX5_swap := by decide +kernel
  have k9 : Cond.fieldLink RX5 9 "BallBoxes$Strings" "lengths" "[I" ∈ wsX5_swap := by decide +kernel
  have k15 : Cond.fieldLink RX5 15 "BallBoxes$Strings" "riggings" "[I" ∈ wsX5_swap := by decide +kernel
  unfold f_X5_swap at hf
  refine lv_aload_n hx hb dX5_swap_0 rfl (lv_at hl 0 rfl) ?_
  refine lv_iload_n hx hb dX5_swap_1 rfl (lv_at hl 1 rfl) ?_
  obtain ⟨r1, h2, hf⟩ := bd1_some hf
  refine cl_i (wr := [(q_t_lengths, .inl (cI, 240, .inl t_lengths)), (q_t_riggings, .inl (cI, 240, .inl t_riggings))]) (ws' := [(q_t, .inr (5, [.ref q_t_lengths, .ref q_t_riggings, .ref q_t_lesserSums, .int t_size, .int t_boxesRead])), (q_t_lengths, .inl (cI, 240, .inl t_lengths)), (q_t_riggings, .inl (cI, 240, .inl t_riggings))]) hA hw [0] [1, 2] [2, 0, 1] rfl rfl rfl (by decide) rfl rfl (va_runV (As := [.int p1]) (rest := []) S (c_X5_isString l D cI cZ cJ cO _ q_t q_t_lengths q_t_riggings q_t_lesserSums N p1 t_size t_boxesRead r1 h2) (cwV 1 hts gX5_swap_X5_isString rfl rfl rfl (by decide +kernel) ⟨Nat.le_of_ble_eq_true rfl, Nat.le_of_ble_eq_true rfl⟩) (pre_V hK hN hw [0] rfl rfl (C := RX5) (T := TX5) (N := 5) (ci := 5) (q0 := 0) rfl rfl) rfl rfl hl.1 rfl (lv_room (Nat.le_of_ble_eq_true rfl)) dX5_swap_2 ⟨Nat.zero_le _, Nat.zero_le _⟩) (fun H locs hw => ?_)
  refine lv_if_eq (tgt := 16) hx hb dX5_swap_5 (by decide) (fun c3 => ?_) (fun c3 => ?_)
  · have hf := (if_pos c3).symm.trans hf
    obtain ⟨rfl, rfl⟩ := pr2 (Option.some.inj hf)
    exact rt_v S hr hlk hw dX5_swap_16
  · have hf := (if_neg c3).symm.trans hf
    refine lv_aload_n hx hb dX5_swap_8 rfl (lv_at hl 0 rfl) ?_
    refine lv_iload_n hx hb dX5_swap_9 rfl (lv_at hl 2 rfl) ?_
    obtain ⟨r4, h5, hf⟩ := bd1_some hf
    refine cl_i (wr := [(q_t_lengths, .inl (cI, 240, .inl t_lengths)), (q_t_riggings, .inl (cI, 240, .inl t_riggings))]) (ws' := [(q_t, .inr (5, [.ref q_t_lengths, .ref q_t_riggings, .ref q_t_lesserSums, .int t_size, .int t_boxesRead])), (q_t_lengths, .inl (cI, 240, .inl t_lengths)), (q_t_riggings, .inl (cI, 240, .inl t_riggings))]) hA hw [0] [1, 2] [2, 0, 1] rfl rfl rfl (by decide) rfl rfl (va_runV (As := [.int p2]) (rest := []) S (c_X5_isString l D cI cZ cJ cO _ q_t q_t_lengths q_t_riggings q_t_lesserSums N p2 t_size t_boxesRead r4 h5) (cwV 1 hts gX5_swap_X5_isString rfl rfl rfl (by decide +kernel) ⟨Nat.le_of_ble_eq_true rfl, Nat.le_of_ble_eq_true rfl⟩) (pre_V hK hN hw [0] rfl rfl (C := RX5) (T := TX5) (N := 5) (ci := 5) (q0 := 0) rfl rfl) rfl rfl hl.1 rfl (lv_room (Nat.le_of_ble_eq_true rfl)) dX5_swap_10 ⟨Nat.zero_le _, Nat.zero_le _⟩) (fun H locs hw => ?_)
    refine lv_if_ne (tgt := 17) hx hb dX5_swap_13 (by decide) (fun c6 => ?_) (fun c6 => ?_)
    · have hf := (if_neg c6).symm.trans hf
      refine lv_aload_n hx hb dX5_swap_17 rfl (lv_at hl 0 rfl) ?_
      refine g_get (ci := 5) (C := RX5) (T := TX5) (N := 5) S hinX5 hK hw 0 0 k9 dX5_swap_18 rfl rfl (by decide) rfl ?_
      refine lv_iload_n hx hb dX5_swap_21 rfl (lv_at hl 1 rfl) ?_
      obtain ⟨b7, hf⟩ := ck_some hf
      refine g_iald S hK hw 1 0 b7 dX5_swap_22 rfl rfl ?_
      refine lv_istore_n (lv' := [(3, .int (t_lengths p1.toNatClampNeg)), (0, .ref q_t), (1, .int p1), (2, .int p2)]) hx hb dX5_swap_23 rfl hl (by decide) rfl (fun ls hl => ?_)
      refine lv_aload_n hx hb dX5_swap_24 rfl (lv_at hl 1 rfl) ?_
      refine g_get (ci := 5) (C := RX5) (T := TX5) (N := 5) S hinX5 hK hw 0 1 k15 dX5_swap_25 rfl rfl (by decide) rfl ?_
      refine lv_iload_n hx hb dX5_swap_28 rfl (lv_at hl 2 rfl) ?_
      obtain ⟨b8, hf⟩ := ck_some hf
      refine g_iald S hK hw 2 0 b8 dX5_swap_29 rfl rfl ?_
      refine lv_istore (lv' := [(4, .int (t_riggings p1.toNatClampNeg)), (3, .int (t_lengths p1.toNatClampNeg)), (0, .ref q_t), (1, .int p1), (2, .int p2)]) hx hb dX5_swap_30 hl (by decide) rfl (fun ls hl => ?_)
      refine lv_aload_n hx hb dX5_swap_32 rfl (lv_at hl 2 rfl) ?_
      refine g_get (ci := 5) (C := RX5) (T := TX5) (N := 5) S hinX5 hK hw 0 0 k9 dX5_swap_33 rfl rfl (by decide) rfl ?_
      refine lv_iload_n hx hb dX5_swap_36 rfl (lv_at hl 3 rfl) ?_
      refine lv_aload_n hx hb dX5_swap_37 rfl (lv_at hl 2 rfl) ?_
      refine g_get (ci := 5) (C := RX5) (T := TX5) (N := 5) S hinX5 hK hw 0 0 k9 dX5_swap_38 rfl rfl (by decide) rfl ?_
      refine lv_iload_n hx hb dX5_swap_41 rfl (lv_at hl 4 rfl) ?_
      obtain ⟨b9, hf⟩ := ck_some hf
      refine g_iald S hK hw 1 0 b9 dX5_swap_42 rfl rfl ?_
      obtain ⟨b10, hf⟩ := ck_some hf
      refine g_iast (ws' := [(q_t, .inr (5, [.ref q_t_lengths, .ref q_t_riggings, .ref q_t_lesserSums, .int t_size, .int t_boxesRead])), (q_t_lengths, .inl (cI, 240, .inl (upd t_lengths p1.toNatClampNeg (t_lengths p2.toNatClampNeg)))), (q_t_riggings, .inl (cI, 240, .inl t_riggings))]) S hK hw 1 0 b10 dX5_swap_43 rfl rfl rfl (fun H locs hw => ?_)
      refine lv_aload_n hx hb dX5_swap_44 rfl (lv_at hl 2 rfl) ?_
      refine g_get (ci := 5) (C := RX5) (T := TX5) (N := 5) S hinX5 hK hw 0 1 k15 dX5_swap_45 rfl rfl (by decide) rfl ?_
      refine lv_iload_n hx hb dX5_swap_48 rfl (lv_at hl 3 rfl) ?_
      refine lv_aload_n hx hb dX5_swap_49 rfl (lv_at hl 2 rfl) ?_
      refine g_get (ci := 5) (C := RX5) (T := TX5) (N := 5) S hinX5 hK hw 0 1 k15 dX5_swap_50 rfl rfl (by decide) rfl ?_
      refine lv_iload_n hx hb dX5_swap_53 rfl (lv_at hl 4 rfl) ?_
      obtain ⟨b11, hf⟩ := ck_some hf
      refine g_iald S hK hw 2 0 b11 dX5_swap_54 rfl rfl ?_
      obtain ⟨b12, hf⟩ := ck_some hf
      refine g_iast (ws' := [(q_t, .inr (5, [.ref q_t_lengths, .ref q_t_riggings, .ref q_t_lesserSums, .int t_size, .int t_boxesRead])), (q_t_lengths, .inl (cI, 240, .inl (upd t_lengths p1.toNatClampNeg (t_lengths p2.toNatClampNeg)))), (q_t_riggings, .inl (cI, 240, .inl (upd t_riggings p1.toNatClampNeg (t_riggings p2.toNatClampNeg))))]) S hK hw 2 0 b12 dX5_swap_55 rfl rfl rfl (fun H locs hw => ?_)
      refine lv_aload_n hx hb dX5_swap_56 rfl (lv_at hl 2 rfl) ?_
      refine g_get (ci := 5) (C := RX5) (T := TX5) (N := 5) S hinX5 hK hw 0 0 k9 dX5_swap_57 rfl rfl (by decide) rfl ?_
      refine lv_iload_n hx hb dX5_swap_60 rfl (lv_at hl 4 rfl) ?_
      refine lv_iload_n hx hb dX5_swap_61 rfl (lv_at hl 1 rfl) ?_
      obtain ⟨b13, hf⟩ := ck_some hf
      refine g_iast (ws' := [(q_t, .inr (5, [.ref q_t_lengths, .ref q_t_riggings, .ref q_t_lesserSums, .int t_size, .int t_boxesRead])), (q_t_lengths, .inl (cI, 240, .inl (upd (upd t_lengths p1.toNatClampNeg (t_lengths p2.toNatClampNeg)) p2.toNatClampNeg (t_lengths p1.toNatClampNeg)))), (q_t_riggings, .inl (cI, 240, .inl (upd t_riggings p1.toNatClampNeg (t_riggings p2.toNatClampNeg))))]) S hK hw 1 0 b13 dX5_swap_62 rfl rfl rfl (fun H locs hw => ?_)
      refine lv_aload_n hx hb dX5_swap_63 rfl (lv_at hl 2 rfl) ?_
      refine g_get (ci := 5) (C := RX5) (T := TX5) (N := 5) S hinX5 hK hw 0 1 k15 dX5_swap_64 rfl rfl (by decide) rfl ?_
      refine lv_iload_n hx hb dX5_swap_67 rfl (lv_at hl 4 rfl) ?_
      refine lv_iload hx hb dX5_swap_68 (lv_at hl 0 rfl) ?_
      obtain ⟨b14, hf⟩ := ck_some hf
      refine g_iast (ws' := [(q_t, .inr (5, [.ref q_t_lengths, .ref q_t_riggings, .ref q_t_lesserSums, .int t_size, .int t_boxesRead])), (q_t_lengths, .inl (cI, 240, .inl (upd (upd t_lengths p1.toNatClampNeg (t_lengths p2.toNatClampNeg)) p2.toNatClampNeg (t_lengths p1.toNatClampNeg)))), (q_t_riggings, .inl (cI, 240, .inl (upd (upd t_riggings p1.toNatClampNeg (t_riggings p2.toNatClampNeg)) p2.toNatClampNeg (t_riggings p1.toNatClampNeg))))]) S hK hw 2 0 b14 dX5_swap_70 rfl rfl rfl (fun H locs hw => ?_)
      obtain ⟨rfl, rfl⟩ := pr2 (Option.some.inj hf)
      exact rt_v S hr hlk hw dX5_swap_71
    · have hf := (if_pos c6).symm.trans hf
      obtain ⟨rfl, rfl⟩ := pr2 (Option.some.inj hf)
      exact rt_v S hr hlk hw dX5_swap_16

def f_X5_removeString (N : Nat) (p1 : Int32) (t_size : Int32) (t_lengths : (Nat → Int32)) (t_riggings : (Nat → Int32)) : Option (Int32 × (Nat → Int32) × (Nat → Int32)) :=
  (bd2 (f_X5_swap N p1 (t_size - (1 : Int32)) t_size t_lengths t_riggings) (fun u1 u2 => (some ((t_size - (1 : Int32)), u1, u2))))

set_option maxHeartbeats 4000000 in
set_option maxRecDepth 100000 in
theorem c_X5_removeString (l : Launch) (D : va_G) (cI cZ cJ cO : ClassId) (sz : Nat) (q_t q_t_lengths q_t_riggings q_t_lesserSums : Nat) (N : Nat) (p1 : Int32) (t_size : Int32) (t_boxesRead : Int32) (t_lengths : (Nat → Int32)) (t_riggings : (Nat → Int32)) (o_t_size : Int32) (o_t_lengths : (Nat → Int32)) (o_t_riggings : (Nat → Int32)) (hf : f_X5_removeString N p1 t_size t_lengths t_riggings = some (o_t_size, o_t_lengths, o_t_riggings)) : Met l yX5_removeString wsX5_removeString ({ frames := 2, cells := 0, slots := 0, locals := 45 }) (PreC D (TY cI cZ cJ cO) [.ref q_t, .int p1] [(q_t, .inr (5, [.ref q_t_lengths, .ref q_t_riggings, .ref q_t_lesserSums, .int t_size, .int t_boxesRead])), (q_t_lengths, .inl (cI, 240, .inl t_lengths)), (q_t_riggings, .inl (cI, 240, .inl t_riggings))] sz) (QcV D [(q_t, .inr (5, [.ref q_t_lengths, .ref q_t_riggings, .ref q_t_lesserSums, .int o_t_size, .int t_boxesRead])), (q_t_lengths, .inl (cI, 240, .inl o_t_lengths)), (q_t_riggings, .inl (cI, 240, .inl o_t_riggings))] (va_A [(q_t, .inr (5, [.ref q_t_lengths, .ref q_t_riggings, .ref q_t_lesserSums, .int t_size, .int t_boxesRead])), (q_t_lengths, .inl (cI, 240, .inl t_lengths)), (q_t_riggings, .inl (cI, 240, .inl t_riggings))] sz)) 0 0 (va_A [(q_t, .inr (5, [.ref q_t_lengths, .ref q_t_riggings, .ref q_t_lesserSums, .int t_size, .int t_boxesRead])), (q_t_lengths, .inl (cI, 240, .inl t_lengths)), (q_t_riggings, .inl (cI, 240, .inl t_riggings))] sz) := by
  refine ctr (cc := cX5_removeString) (maxL := 2) (ret := none) (by decide) rfl (Nat.le_of_ble_eq_true rfl) ?_
  intro p e s m below meth c S hr hlk hnm hK hN hsz hA hw ls hl
  generalize va_A [(q_t, .inr (5, [.ref q_t_lengths, .ref q_t_riggings, .ref q_t_lesserSums, .int t_size, .int t_boxesRead])), (q_t_lengths, .inl (cI, 240, .inl t_lengths)), (q_t_riggings, .inl (cI, 240, .inl t_riggings))] sz = A at hA hw ⊢
  have S : CallFix p m c cX5_removeString 2 s ([.ref q_t, .int p1] : List Value).toArray wsX5_removeString RX5 := S
  have hx := S.1
  have hb := S.2.1
  have hts := S.2.2.2.2
  have hl : lv_has ls 2 [(0, .ref q_t), (1, .int p1)] := hl
  have hinX5 : ∀ w ∈ u_ws RX5 TX5 5, w ∈ wsX5_removeString := by decide +kernel
  have k21 : Cond.fieldLink RX5 21 "BallBoxes$Strings" "size" "I" ∈ wsX5_removeString := by decide +kernel
  unfold f_X5_removeString at hf
  refine lv_aload_n hx hb dX5_removeString_0 rfl (lv_at hl 0 rfl) ?_
  refine lv_iload_n hx hb dX5_removeString_1 rfl (lv_at hl 1 rfl) ?_
  refine lv_aload_n hx hb dX5_removeString_2 rfl (lv_at hl 0 rfl) ?_
  refine g_get (ci := 5) (C := RX5) (T := TX5) (N := 5) S hinX5 hK hw 0 3 k21 dX5_removeString_3 rfl rfl (by decide) rfl ?_
  refine lv_iconst (v := (1 : Int32)) hx hb dX5_removeString_6 (by decide) ?_
  refine lv_isub hx hb dX5_removeString_7 ?_
  obtain ⟨u1, u2, h3, hf⟩ := bd2_some hf
  refine cl_v (wr := []) (ws' := [(q_t, .inr (5, [.ref q_t_lengths, .ref q_t_riggings, .ref q_t_lesserSums, .int t_size, .int t_boxesRead])), (q_t_lengths, .inl (cI, 240, .inl u1)), (q_t_riggings, .inl (cI, 240, .inl u2))]) hA hw [0, 1, 2] [] [0, 1, 2] rfl rfl rfl (by decide) rfl rfl (va_runV (As := [.int p1, .int (t_size - (1 : Int32))]) (rest := []) S (c_X5_swap l D cI cZ cJ cO _ q_t q_t_lengths q_t_riggings q_t_lesserSums N p1 (t_size - (1 : Int32)) t_size t_boxesRead t_lengths t_riggings u1 u2 h3) (cwV 2 hts gX5_removeString_X5_swap rfl rfl rfl (by decide +kernel) ⟨Nat.le_of_ble_eq_true rfl, Nat.le_of_ble_eq_true rfl⟩) (pre_V hK hN hw [0, 1, 2] rfl rfl (C := RX5) (T := TX5) (N := 5) (ci := 5) (q0 := 0) rfl rfl) rfl rfl hl.1 rfl (lv_room (Nat.le_of_ble_eq_true rfl)) dX5_removeString_8 ⟨Nat.zero_le _, Nat.zero_le _⟩) (fun H locs hw => ?_)
  refine lv_aload_n hx hb dX5_removeString_11 rfl (lv_at hl 0 rfl) ?_
  refine lv_dup hx hb dX5_removeString_12 rfl ?_
  refine g_get (ci := 5) (C := RX5) (T := TX5) (N := 5) S hinX5 hK hw 0 3 k21 dX5_removeString_13 rfl rfl (by decide) rfl ?_
  refine lv_iconst (v := (1 : Int32)) hx hb dX5_removeString_16 (by decide) ?_
  refine lv_isub hx hb dX5_removeString_17 ?_
  refine g_put (ci := 5) (C := RX5) (T := TX5) (N := 5) (ws' := [(q_t, .inr (5, [.ref q_t_lengths, .ref q_t_riggings, .ref q_t_lesserSums, .int (t_size - (1 : Int32)), .int t_boxesRead])), (q_t_lengths, .inl (cI, 240, .inl u1)), (q_t_riggings, .inl (cI, 240, .inl u2))]) S hinX5 tyX5 tyX5_ok nmX5 hK hw 0 3 k21 dX5_removeString_18 rfl rfl (by decide) rfl rfl rfl (Nat.le_of_ble_eq_true rfl) rfl (fun H locs hw => ?_)
  obtain ⟨rfl, rfl, rfl⟩ := pr3 (Option.some.inj hf)
  exact rt_v S hr hlk hw dX5_removeString_21

def L_X5_shortestTight_4 (N : Nat) (x1 : Int32) (t_size : Int32) (t_lengths : (Nat → Int32)) (t_riggings : (Nat → Int32)) (t_lesserSums : (Nat → Int32)) (K : Int32 → Option (Int32)) : Nat → Int32 → Int32 → Option (Int32)
  | 0, _, _ => none
  | n + 1, x2, x3 => (if t_size ≤ x3 then (K x2) else (if (240 : Int32) ≤ x3 then (K x2) else (bd1 (f_X5_isTight N x3 x1 t_size t_lengths t_riggings t_lesserSums) (fun r3 => (if r3 = (0 : Int32) then (L_X5_shortestTight_4 N x1 t_size t_lengths t_riggings t_lesserSums K n x2 (x3 + (1 : Int32))) else (if x2 = (-1 : Int32) then (L_X5_shortestTight_4 N x1 t_size t_lengths t_riggings t_lesserSums K n x3 (x3 + (1 : Int32))) else (ck (inb x3 240) (bd1 (f_X5_lengthOf N x2 t_size t_lengths) (fun r8 => (if r8 ≤ (t_lengths x3.toNatClampNeg) then (L_X5_shortestTight_4 N x1 t_size t_lengths t_riggings t_lesserSums K n x2 (x3 + (1 : Int32))) else (L_X5_shortestTight_4 N x1 t_size t_lengths t_riggings t_lesserSums K n x3 (x3 + (1 : Int32)))))))))))))

def f_X5_shortestTight (N : Nat) (p1 : Int32) (t_size : Int32) (t_lengths : (Nat → Int32)) (t_riggings : (Nat → Int32)) (t_lesserSums : (Nat → Int32)) : Option (Int32) :=
  (L_X5_shortestTight_4 N p1 t_size t_lengths t_riggings t_lesserSums (fun y11 => (some y11)) N (-1 : Int32) (0 : Int32))

set_option maxHeartbeats 4000000 in
set_option maxRecDepth 100000 in
theorem c_X5_shortestTight (l : Launch) (D : va_G) (cI cZ cJ cO : ClassId) (sz : Nat) (q_t q_t_lengths q_t_riggings q_t_lesserSums : Nat) (N : Nat) (p1 : Int32) (t_size : Int32) (t_boxesRead : Int32) (t_lengths : (Nat → Int32)) (t_riggings : (Nat → Int32)) (t_lesserSums : (Nat → Int32)) (r : Int32) (hf : f_X5_shortestTight N p1 t_size t_lengths t_riggings t_lesserSums = some r) : Met l yX5_shortestTight wsX5_shortestTight ({ frames := 3, cells := 0, slots := 0, locals := 64 }) (PreC D (TY cI cZ cJ cO) [.ref q_t, .int p1] [(q_t, .inr (5, [.ref q_t_lengths, .ref q_t_riggings, .ref q_t_lesserSums, .int t_size, .int t_boxesRead])), (q_t_lengths, .inl (cI, 240, .inl t_lengths)), (q_t_riggings, .inl (cI, 240, .inl t_riggings)), (q_t_lesserSums, .inl (cI, 241, .inl t_lesserSums))] sz) (QcI D [(q_t, .inr (5, [.ref q_t_lengths, .ref q_t_riggings, .ref q_t_lesserSums, .int t_size, .int t_boxesRead])), (q_t_lengths, .inl (cI, 240, .inl t_lengths)), (q_t_riggings, .inl (cI, 240, .inl t_riggings)), (q_t_lesserSums, .inl (cI, 241, .inl t_lesserSums))] (va_A [(q_t, .inr (5, [.ref q_t_lengths, .ref q_t_riggings, .ref q_t_lesserSums, .int t_size, .int t_boxesRead])), (q_t_lengths, .inl (cI, 240, .inl t_lengths)), (q_t_riggings, .inl (cI, 240, .inl t_riggings)), (q_t_lesserSums, .inl (cI, 241, .inl t_lesserSums))] sz) r) 0 0 (va_A [(q_t, .inr (5, [.ref q_t_lengths, .ref q_t_riggings, .ref q_t_lesserSums, .int t_size, .int t_boxesRead])), (q_t_lengths, .inl (cI, 240, .inl t_lengths)), (q_t_riggings, .inl (cI, 240, .inl t_riggings)), (q_t_lesserSums, .inl (cI, 241, .inl t_lesserSums))] sz) := by
  refine ctr (cc := cX5_shortestTight) (maxL := 4) (ret := (some .int)) (by decide) rfl (Nat.le_of_ble_eq_true rfl) ?_
  intro p e s m below meth c S hr hlk hnm hK hN hsz hA hw ls hl
  generalize va_A [(q_t, .inr (5, [.ref q_t_lengths, .ref q_t_riggings, .ref q_t_lesserSums, .int t_size, .int t_boxesRead])), (q_t_lengths, .inl (cI, 240, .inl t_lengths)), (q_t_riggings, .inl (cI, 240, .inl t_riggings)), (q_t_lesserSums, .inl (cI, 241, .inl t_lesserSums))] sz = A at hA hw ⊢
  have S : CallFix p m c cX5_shortestTight 4 s ([.ref q_t, .int p1] : List Value).toArray wsX5_shortestTight RX5 := S
  have hx := S.1
  have hb := S.2.1
  have hts := S.2.2.2.2
  have hl : lv_has ls 4 [(0, .ref q_t), (1, .int p1)] := hl
  have hinX5 : ∀ w ∈ u_ws RX5 TX5 5, w ∈ wsX5_shortestTight := by decide +kernel
  have k9 : Cond.fieldLink RX5 9 "BallBoxes$Strings" "lengths" "[I" ∈ wsX5_shortestTight := by decide +kernel
  have k21 : Cond.fieldLink RX5 21 "BallBoxes$Strings" "size" "I" ∈ wsX5_shortestTight := by decide +kernel
  have Lp4 : ∀ (x1 : Int32) (K : Int32 → Option (Int32)), (∀ (z2 : Int32) (H : Heap) (locs : List Loc) (ls : Array Slot), Wd D A s.heap [(q_t, .inr (5, [.ref q_t_lengths, .ref q_t_riggings, .ref q_t_lesserSums, .int t_size, .int t_boxesRead])), (q_t_lengths, .inl (cI, 240, .inl t_lengths)), (q_t_riggings, .inl (cI, 240, .inl t_riggings)), (q_t_lesserSums, .inl (cI, 241, .inl t_lesserSums))] H locs → lv_has ls 4 [(2, .int z2)] → K z2 = some r → W p l e ({ frames := 3, cells := 0, slots := 0, locals := 64 } : Room) s m ([.ref q_t, .int p1] : List Value).toArray below meth c H locs 0 0 (MQ below (QcI D [(q_t, .inr (5, [.ref q_t_lengths, .ref q_t_riggings, .ref q_t_lesserSums, .int t_size, .int t_boxesRead])), (q_t_lengths, .inl (cI, 240, .inl t_lengths)), (q_t_riggings, .inl (cI, 240, .inl t_riggings)), (q_t_lesserSums, .inl (cI, 241, .inl t_lesserSums))] A r) ([.ref q_t, .int p1] : List Value).toArray s 0 0 A) (F0 m 55 ls [])) → ∀ (n : Nat) (x2 : Int32) (x3 : Int32) (H : Heap) (locs : List Loc) (ls : Array Slot), Wd D A s.heap [(q_t, .inr (5, [.ref q_t_lengths, .ref q_t_riggings, .ref q_t_lesserSums, .int t_size, .int t_boxesRead])), (q_t_lengths, .inl (cI, 240, .inl t_lengths)), (q_t_riggings, .inl (cI, 240, .inl t_riggings)), (q_t_lesserSums, .inl (cI, 241, .inl t_lesserSums))] H locs → lv_has ls 4 [(0, .ref q_t), (1, .int x1), (2, .int x2), (3, .int x3)] → L_X5_shortestTight_4 N x1 t_size t_lengths t_riggings t_lesserSums K n x2 x3 = some r → W p l e ({ frames := 3, cells := 0, slots := 0, locals := 64 } : Room) s m ([.ref q_t, .int p1] : List Value).toArray below meth c H locs 0 0 (MQ below (QcI D [(q_t, .inr (5, [.ref q_t_lengths, .ref q_t_riggings, .ref q_t_lesserSums, .int t_size, .int t_boxesRead])), (q_t_lengths, .inl (cI, 240, .inl t_lengths)), (q_t_riggings, .inl (cI, 240, .inl t_riggings)), (q_t_lesserSums, .inl (cI, 241, .inl t_lesserSums))] A r) ([.ref q_t, .int p1] : List Value).toArray s 0 0 A) (F0 m 4 ls []) := by
    intro x1 K hKx n
    induction n with
    | zero =>
      intro x2 x3 H locs ls hw hl hf
      rw [L_X5_shortestTight_4] at hf
      cases hf
    | succ n ih =>
      intro x2 x3 H locs ls hw hl hf
      rw [L_X5_shortestTight_4] at hf
      refine lv_iload_n hx hb dX5_shortestTight_4 rfl (lv_at hl 3 rfl) ?_
      refine lv_aload_n hx hb dX5_shortestTight_5 rfl (lv_at hl 0 rfl) ?_
      refine g_get (ci := 5) (C := RX5) (T := TX5) (N := 5) S hinX5 hK hw 0 3 k21 dX5_shortestTight_6 rfl rfl (by decide) rfl ?_
      refine lv_icmp_ge (tgt := 55) hx hb dX5_shortestTight_9 (by decide) (fun c1 => ?_) (fun c1 => ?_)
      · have hf := (if_pos c1).symm.trans hf
        exact hKx x2 _ _ _ hw (lv_sub hl [2] rfl) hf
      · have hf := (if_neg c1).symm.trans hf
        refine lv_iload_n hx hb dX5_shortestTight_12 rfl (lv_at hl 3 rfl) ?_
        refine lv_sipush (v := (240 : Int32)) hx hb dX5_shortestTight_13 (by decide) ?_
        refine lv_icmp_ge (tgt := 55) hx hb dX5_shortestTight_16 (by decide) (fun c2 => ?_) (fun c2 => ?_)
        · have hf := (if_pos c2).symm.trans hf
          exact hKx x2 _ _ _ hw (lv_sub hl [2] rfl) hf
        · have hf := (if_neg c2).symm.trans hf
          refine lv_aload_n hx hb dX5_shortestTight_19 rfl (lv_at hl 0 rfl) ?_
          refine lv_iload_n hx hb dX5_shortestTight_20 rfl (lv_at hl 3 rfl) ?_
          refine lv_iload_n hx hb dX5_shortestTight_21 rfl (lv_at hl 1 rfl) ?_
          obtain ⟨r3, h4, hf⟩ := bd1_some hf
          refine cl_i (wr := []) (ws' := [(q_t, .inr (5, [.ref q_t_lengths, .ref q_t_riggings, .ref q_t_lesserSums, .int t_size, .int t_boxesRead])), (q_t_lengths, .inl (cI, 240, .inl t_lengths)), (q_t_riggings, .inl (cI, 240, .inl t_riggings)), (q_t_lesserSums, .inl (cI, 241, .inl t_lesserSums))]) hA hw [0, 1, 2, 3] [] [0, 1, 2, 3] rfl rfl rfl (by decide) rfl rfl (va_runV (As := [.int x3, .int x1]) (rest := []) S (c_X5_isTight l D cI cZ cJ cO _ q_t q_t_lengths q_t_riggings q_t_lesserSums N x3 x1 t_size t_boxesRead t_lengths t_riggings t_lesserSums r3 h4) (cwV 2 hts gX5_shortestTight_X5_isTight rfl rfl rfl (by decide +kernel) ⟨Nat.le_of_ble_eq_true rfl, Nat.le_of_ble_eq_true rfl⟩) (pre_V hK hN hw [0, 1, 2, 3] rfl rfl (C := RX5) (T := TX5) (N := 5) (ci := 5) (q0 := 0) rfl rfl) rfl rfl hl.1 rfl (lv_room (Nat.le_of_ble_eq_true rfl)) dX5_shortestTight_22 ⟨Nat.zero_le _, Nat.zero_le _⟩) (fun H locs hw => ?_)
          refine lv_if_eq (tgt := 49) hx hb dX5_shortestTight_25 (by decide) (fun c5 => ?_) (fun c5 => ?_)
          · have hf := (if_pos c5).symm.trans hf
            refine lv_iinc (v := (x3 + (1 : Int32))) (lv' := [(3, .int (x3 + (1 : Int32))), (0, .ref q_t), (1, .int x1), (2, .int x2)]) hx hb dX5_shortestTight_49 hl (k := 3) rfl rfl (by decide) rfl (fun ls hl => ?_)
            refine lv_goto (tgt := 4) hx hb dX5_shortestTight_52 (by decide) ?_
            exact ih x2 (x3 + (1 : Int32)) _ _ _ hw (lv_sub hl [1, 2, 3, 0] rfl) hf
          · have hf := (if_neg c5).symm.trans hf
            refine lv_iload_n hx hb dX5_shortestTight_28 rfl (lv_at hl 2 rfl) ?_
            refine lv_iconst (v := (-1 : Int32)) hx hb dX5_shortestTight_29 (by decide) ?_
            refine lv_icmp_eq (tgt := 47) hx hb dX5_shortestTight_30 (by decide) (fun c6 => ?_) (fun c6 => ?_)
            · have hf := (if_pos c6).symm.trans hf
              refine lv_iload_n hx hb dX5_shortestTight_47 rfl (lv_at hl 3 rfl) ?_
              refine lv_istore_n (lv' := [(2, .int x3), (0, .ref q_t), (1, .int x1), (3, .int x3)]) hx hb dX5_shortestTight_48 rfl hl (by decide) rfl (fun ls hl => ?_)
              refine lv_iinc (v := (x3 + (1 : Int32))) (lv' := [(3, .int (x3 + (1 : Int32))), (2, .int x3), (0, .ref q_t), (1, .int x1)]) hx hb dX5_shortestTight_49 hl (k := 3) rfl rfl (by decide) rfl (fun ls hl => ?_)
              refine lv_goto (tgt := 4) hx hb dX5_shortestTight_52 (by decide) ?_
              exact ih x3 (x3 + (1 : Int32)) _ _ _ hw (lv_sub hl [2, 3, 1, 0] rfl) hf
            · have hf := (if_neg c6).symm.trans hf
              refine lv_aload_n hx hb dX5_shortestTight_33 rfl (lv_at hl 0 rfl) ?_
              refine g_get (ci := 5) (C := RX5) (T := TX5) (N := 5) S hinX5 hK hw 0 0 k9 dX5_shortestTight_34 rfl rfl (by decide) rfl ?_
              refine lv_iload_n hx hb dX5_shortestTight_37 rfl (lv_at hl 3 rfl) ?_
              obtain ⟨b7, hf⟩ := ck_some hf
              refine g_iald S hK hw 1 0 b7 dX5_shortestTight_38 rfl rfl ?_
              refine lv_aload_n hx hb dX5_shortestTight_39 rfl (lv_at hl 0 rfl) ?_
              refine lv_iload_n hx hb dX5_shortestTight_40 rfl (lv_at hl 2 rfl) ?_
              obtain ⟨r8, h9, hf⟩ := bd1_some hf
              refine cl_i (wr := [(q_t_riggings, .inl (cI, 240, .inl t_riggings)), (q_t_lesserSums, .inl (cI, 241, .inl t_lesserSums))]) (ws' := [(q_t, .inr (5, [.ref q_t_lengths, .ref q_t_riggings, .ref q_t_lesserSums, .int t_size, .int t_boxesRead])), (q_t_lengths, .inl (cI, 240, .inl t_lengths)), (q_t_riggings, .inl (cI, 240, .inl t_riggings)), (q_t_lesserSums, .inl (cI, 241, .inl t_lesserSums))]) hA hw [0, 1] [2, 3] [2, 3, 0, 1] rfl rfl rfl (by decide) rfl rfl (va_runV (As := [.int x2]) (rest := [.int (t_lengths x3.toNatClampNeg)]) S (c_X5_lengthOf l D cI cZ cJ cO _ q_t q_t_lengths q_t_riggings q_t_lesserSums N x2 t_size t_boxesRead t_lengths r8 h9) (cwV 1 hts gX5_shortestTight_X5_lengthOf rfl rfl rfl (by decide +kernel) ⟨Nat.le_of_ble_eq_true rfl, Nat.le_of_ble_eq_true rfl⟩) (pre_V hK hN hw [0, 1] rfl rfl (C := RX5) (T := TX5) (N := 5) (ci := 5) (q0 := 0) rfl rfl) rfl rfl hl.1 rfl (lv_room (Nat.le_of_ble_eq_true rfl)) dX5_shortestTight_41 ⟨Nat.zero_le _, Nat.zero_le _⟩) (fun H locs hw => ?_)
              refine lv_icmp_ge (tgt := 49) hx hb dX5_shortestTight_44 (by decide) (fun c10 => ?_) (fun c10 => ?_)
              · have hf := (if_pos c10).symm.trans hf
                refine lv_iinc (v := (x3 + (1 : Int32))) (lv' := [(3, .int (x3 + (1 : Int32))), (0, .ref q_t), (1, .int x1), (2, .int x2)]) hx hb dX5_shortestTight_49 hl (k := 3) rfl rfl (by decide) rfl (fun ls hl => ?_)
                refine lv_goto (tgt := 4) hx hb dX5_shortestTight_52 (by decide) ?_
                exact ih x2 (x3 + (1 : Int32)) _ _ _ hw (lv_sub hl [1, 2, 3, 0] rfl) hf
              · have hf := (if_neg c10).symm.trans hf
                refine lv_iload_n hx hb dX5_shortestTight_47 rfl (lv_at hl 3 rfl) ?_
                refine lv_istore_n (lv' := [(2, .int x3), (0, .ref q_t), (1, .int x1), (3, .int x3)]) hx hb dX5_shortestTight_48 rfl hl (by decide) rfl (fun ls hl => ?_)
                refine lv_iinc (v := (x3 + (1 : Int32))) (lv' := [(3, .int (x3 + (1 : Int32))), (2, .int x3), (0, .ref q_t), (1, .int x1)]) hx hb dX5_shortestTight_49 hl (k := 3) rfl rfl (by decide) rfl (fun ls hl => ?_)
                refine lv_goto (tgt := 4) hx hb dX5_shortestTight_52 (by decide) ?_
                exact ih x3 (x3 + (1 : Int32)) _ _ _ hw (lv_sub hl [2, 3, 1, 0] rfl) hf
  unfold f_X5_shortestTight at hf
  refine lv_iconst (v := (-1 : Int32)) hx hb dX5_shortestTight_0 (by decide) ?_
  refine lv_istore_n (lv' := [(2, .int (-1 : Int32)), (0, .ref q_t), (1, .int p1)]) hx hb dX5_shortestTight_1 rfl hl (by decide) rfl (fun ls hl => ?_)
  refine lv_iconst (v := (0 : Int32)) hx hb dX5_shortestTight_2 (by decide) ?_
  refine lv_istore_n (lv' := [(3, .int (0 : Int32)), (2, .int (-1 : Int32)), (0, .ref q_t), (1, .int p1)]) hx hb dX5_shortestTight_3 rfl hl (by decide) rfl (fun ls hl => ?_)
  refine Lp4 p1 _ (fun y11 H locs ls hw hl hf => ?_) N (-1 : Int32) (0 : Int32) _ _ _ hw (lv_sub hl [2, 3, 1, 0] rfl) hf
  refine lv_iload_n hx hb dX5_shortestTight_55 rfl (lv_at hl 0 rfl) ?_
  obtain rfl := Option.some.inj hf
  exact rt_i S hr hlk hw dX5_shortestTight_56

def f_X5_giveBall (N : Nat) (p1 : Int32) (t_size : Int32) (t_lengths : (Nat → Int32)) (t_riggings : (Nat → Int32)) (t_lesserSums : (Nat → Int32)) : Option (Int32 × Int32 × (Nat → Int32) × (Nat → Int32) × (Nat → Int32)) :=
  (bd1 (f_X5_shortestTight N (p1 + (1 : Int32)) t_size t_lengths t_riggings t_lesserSums) (fun r1 => (bd1 (f_X5_isString N r1 t_size) (fun r3 => (if r3 = (0 : Int32) then (some ((0 : Int32), t_size, t_lengths, t_riggings, t_lesserSums)) else (ck (inb r1 240) (bd1 (f_X5_addToSums N (t_lengths r1.toNatClampNeg) (-1 : Int32) t_lesserSums) (fun u7 => (ck (inb r1 240) (ck (inb r1 240) (ck (inb r1 240) (if ((upd t_lengths r1.toNatClampNeg ((t_lengths r1.toNatClampNeg) - (1 : Int32))) r1.toNatClampNeg) = (0 : Int32) then (bd3 (f_X5_removeString N r1 t_size (upd t_lengths r1.toNatClampNeg ((t_lengths r1.toNatClampNeg) - (1 : Int32))) t_riggings) (fun u17 u18 u19 => (some ((1 : Int32), u17, u18, u19, u7)))) else (ck (inb r1 240) (bd1 (f_X5_roomLeft N ((upd t_lengths r1.toNatClampNeg ((t_lengths r1.toNatClampNeg) - (1 : Int32))) r1.toNatClampNeg) p1 u7) (fun r14 => (ck (inb r1 240) (some ((1 : Int32), t_size, (upd t_lengths r1.toNatClampNeg ((t_lengths r1.toNatClampNeg) - (1 : Int32))), (upd t_riggings r1.toNatClampNeg r14), u7))))))))))))))))))

set_option maxHeartbeats 4000000 in
set_option maxRecDepth 100000 in
theorem c_X5_giveBall (l : Launch) (D : va_G) (cI cZ cJ cO : ClassId) (sz : Nat) (q_t q_t_lengths q_t_riggings q_t_lesserSums : Nat) (N : Nat) (p1 : Int32) (t_size : Int32) (t_boxesRead : Int32) (t_lengths : (Nat → Int32)) (t_riggings : (Nat → Int32)) (t_lesserSums : (Nat → Int32)) (r : Int32) (o_t_size : Int32) (o_t_lengths : (Nat → Int32)) (o_t_riggings : (Nat → Int32)) (o_t_lesserSums : (Nat → Int32)) (hf : f_X5_giveBall N p1 t_size t_lengths t_riggings t_lesserSums = some (r, o_t_size, o_t_lengths, o_t_riggings, o_t_lesserSums)) : Met l yX5_giveBall wsX5_giveBall ({ frames := 4, cells := 0, slots := 0, locals := 87 }) (PreC D (TY cI cZ cJ cO) [.ref q_t, .int p1] [(q_t, .inr (5, [.ref q_t_lengths, .ref q_t_riggings, .ref q_t_lesserSums, .int t_size, .int t_boxesRead])), (q_t_lengths, .inl (cI, 240, .inl t_lengths)), (q_t_riggings, .inl (cI, 240, .inl t_riggings)), (q_t_lesserSums, .inl (cI, 241, .inl t_lesserSums))] sz) (QcI D [(q_t, .inr (5, [.ref q_t_lengths, .ref q_t_riggings, .ref q_t_lesserSums, .int o_t_size, .int t_boxesRead])), (q_t_lengths, .inl (cI, 240, .inl o_t_lengths)), (q_t_riggings, .inl (cI, 240, .inl o_t_riggings)), (q_t_lesserSums, .inl (cI, 241, .inl o_t_lesserSums))] (va_A [(q_t, .inr (5, [.ref q_t_lengths, .ref q_t_riggings, .ref q_t_lesserSums, .int t_size, .int t_boxesRead])), (q_t_lengths, .inl (cI, 240, .inl t_lengths)), (q_t_riggings, .inl (cI, 240, .inl t_riggings)), (q_t_lesserSums, .inl (cI, 241, .inl t_lesserSums))] sz) r) 0 0 (va_A [(q_t, .inr (5, [.ref q_t_lengths, .ref q_t_riggings, .ref q_t_lesserSums, .int t_size, .int t_boxesRead])), (q_t_lengths, .inl (cI, 240, .inl t_lengths)), (q_t_riggings, .inl (cI, 240, .inl t_riggings)), (q_t_lesserSums, .inl (cI, 241, .inl t_lesserSums))] sz) := by
  refine ctr (cc := cX5_giveBall) (maxL := 3) (ret := (some .int)) (by decide) rfl (Nat.le_of_ble_eq_true rfl) ?_
  intro p e s m below meth c S hr hlk hnm hK hN hsz hA hw ls hl
  generalize va_A [(q_t, .inr (5, [.ref q_t_lengths, .ref q_t_riggings, .ref q_t_lesserSums, .int t_size, .int t_boxesRead])), (q_t_lengths, .inl (cI, 240, .inl t_lengths)), (q_t_riggings, .inl (cI, 240, .inl t_riggings)), (q_t_lesserSums, .inl (cI, 241, .inl t_lesserSums))] sz = A at hA hw ⊢
  have S : CallFix p m c cX5_giveBall 3 s ([.ref q_t, .int p1] : List Value).toArray wsX5_giveBall RX5 := S
  have hx := S.1
  have hb := S.2.1
  have hts := S.2.2.2.2
  have hl : lv_has ls 3 [(0, .ref q_t), (1, .int p1)] := hl
  have hinX5 : ∀ w ∈ u_ws RX5 TX5 5, w ∈ wsX5_giveBall := by decide +kernel
  have k9 : Cond.fieldLink RX5 9 "BallBoxes$Strings" "lengths" "[I" ∈ wsX5_giveBall := by decide +kernel
  have k15 : Cond.fieldLink RX5 15 "BallBoxes$Strings" "riggings" "[I" ∈ wsX5_giveBall := by decide +kernel
  unfold f_X5_giveBall at hf
  refine lv_aload_n hx hb dX5_giveBall_0 rfl (lv_at hl 0 rfl) ?_
  refine lv_iload_n hx hb dX5_giveBall_1 rfl (lv_at hl 1 rfl) ?_
  refine lv_iconst (v := (1 : Int32)) hx hb dX5_giveBall_2 (by decide) ?_
  refine lv_iadd hx hb dX5_giveBall_3 ?_
  obtain ⟨r1, h2, hf⟩ := bd1_some hf
  refine cl_i (wr := []) (ws' := [(q_t, .inr (5, [.ref q_t_lengths, .ref q_t_riggings, .ref q_t_lesserSums, .int t_size, .int t_boxesRead])), (q_t_lengths, .inl (cI, 240, .inl t_lengths)), (q_t_riggings, .inl (cI, 240, .inl t_riggings)), (q_t_lesserSums, .inl (cI, 241, .inl t_lesserSums))]) hA hw [0, 1, 2, 3] [] [0, 1, 2, 3] rfl rfl rfl (by decide) rfl rfl (va_runV (As := [.int (p1 + (1 : Int32))]) (rest := []) S (c_X5_shortestTight l D cI cZ cJ cO _ q_t q_t_lengths q_t_riggings q_t_lesserSums N (p1 + (1 : Int32)) t_size t_boxesRead t_lengths t_riggings t_lesserSums r1 h2) (cwV 1 hts gX5_giveBall_X5_shortestTight rfl rfl rfl (by decide +kernel) ⟨Nat.le_of_ble_eq_true rfl, Nat.le_of_ble_eq_true rfl⟩) (pre_V hK hN hw [0, 1, 2, 3] rfl rfl (C := RX5) (T := TX5) (N := 5) (ci := 5) (q0 := 0) rfl rfl) rfl rfl hl.1 rfl (lv_room (Nat.le_of_ble_eq_true rfl)) dX5_giveBall_4 ⟨Nat.zero_le _, Nat.zero_le _⟩) (fun H locs hw => ?_)
  refine lv_istore_n (lv' := [(2, .int r1), (0, .ref q_t), (1, .int p1)]) hx hb dX5_giveBall_7 rfl hl (by decide) rfl (fun ls hl => ?_)
  refine lv_aload_n hx hb dX5_giveBall_8 rfl (lv_at hl 1 rfl) ?_
  refine lv_iload_n hx hb dX5_giveBall_9 rfl (lv_at hl 0 rfl) ?_
  obtain ⟨r3, h4, hf⟩ := bd1_some hf
  refine cl_i (wr := [(q_t_lengths, .inl (cI, 240, .inl t_lengths)), (q_t_riggings, .inl (cI, 240, .inl t_riggings)), (q_t_lesserSums, .inl (cI, 241, .inl t_lesserSums))]) (ws' := [(q_t, .inr (5, [.ref q_t_lengths, .ref q_t_riggings, .ref q_t_lesserSums, .int t_size, .int t_boxesRead])), (q_t_lengths, .inl (cI, 240, .inl t_lengths)), (q_t_riggings, .inl (cI, 240, .inl t_riggings)), (q_t_lesserSums, .inl (cI, 241, .inl t_lesserSums))]) hA hw [0] [1, 2, 3] [3, 0, 1, 2] rfl rfl rfl (by decide) rfl rfl (va_runV (As := [.int r1]) (rest := []) S (c_X5_isString l D cI cZ cJ cO _ q_t q_t_lengths q_t_riggings q_t_lesserSums N r1 t_size t_boxesRead r3 h4) (cwV 1 hts gX5_giveBall_X5_isString rfl rfl rfl (by decide +kernel) ⟨Nat.le_of_ble_eq_true rfl, Nat.le_of_ble_eq_true rfl⟩) (pre_V hK hN hw [0] rfl rfl (C := RX5) (T := TX5) (N := 5) (ci := 5) (q0 := 0) rfl rfl) rfl rfl hl.1 rfl (lv_room (Nat.le_of_ble_eq_true rfl)) dX5_giveBall_10 ⟨Nat.zero_le _, Nat.zero_le _⟩) (fun H locs hw => ?_)
  refine lv_if_ne (tgt := 18) hx hb dX5_giveBall_13 (by decide) (fun c5 => ?_) (fun c5 => ?_)
  · have hf := (if_neg c5).symm.trans hf
    refine lv_aload_n hx hb dX5_giveBall_18 rfl (lv_at hl 1 rfl) ?_
    refine lv_aload_n hx hb dX5_giveBall_19 rfl (lv_at hl 1 rfl) ?_
    refine g_get (ci := 5) (C := RX5) (T := TX5) (N := 5) S hinX5 hK hw 0 0 k9 dX5_giveBall_20 rfl rfl (by decide) rfl ?_
    refine lv_iload_n hx hb dX5_giveBall_23 rfl (lv_at hl 0 rfl) ?_
    obtain ⟨b6, hf⟩ := ck_some hf
    refine g_iald S hK hw 1 0 b6 dX5_giveBall_24 rfl rfl ?_
    refine lv_iconst (v := (-1 : Int32)) hx hb dX5_giveBall_25 (by decide) ?_
    obtain ⟨u7, h8, hf⟩ := bd1_some hf
    refine cl_v (wr := [(q_t_lengths, .inl (cI, 240, .inl t_lengths)), (q_t_riggings, .inl (cI, 240, .inl t_riggings))]) (ws' := [(q_t, .inr (5, [.ref q_t_lengths, .ref q_t_riggings, .ref q_t_lesserSums, .int t_size, .int t_boxesRead])), (q_t_lengths, .inl (cI, 240, .inl t_lengths)), (q_t_riggings, .inl (cI, 240, .inl t_riggings)), (q_t_lesserSums, .inl (cI, 241, .inl u7))]) hA hw [0, 3] [1, 2] [2, 0, 1, 3] rfl rfl rfl (by decide) rfl rfl (va_runV (As := [.int (t_lengths r1.toNatClampNeg), .int (-1 : Int32)]) (rest := []) S (c_X5_addToSums l D cI cZ cJ cO _ q_t q_t_lengths q_t_riggings q_t_lesserSums N (t_lengths r1.toNatClampNeg) (-1 : Int32) t_size t_boxesRead t_lesserSums u7 h8) (cwV 2 hts gX5_giveBall_X5_addToSums rfl rfl rfl (by decide +kernel) ⟨Nat.le_of_ble_eq_true rfl, Nat.le_of_ble_eq_true rfl⟩) (pre_V hK hN hw [0, 3] rfl rfl (C := RX5) (T := TX5) (N := 5) (ci := 5) (q0 := 0) rfl rfl) rfl rfl hl.1 rfl (lv_room (Nat.le_of_ble_eq_true rfl)) dX5_giveBall_26 ⟨Nat.zero_le _, Nat.zero_le _⟩) (fun H locs hw => ?_)
    refine lv_aload_n hx hb dX5_giveBall_29 rfl (lv_at hl 1 rfl) ?_
    refine g_get (ci := 5) (C := RX5) (T := TX5) (N := 5) S hinX5 hK hw 0 0 k9 dX5_giveBall_30 rfl rfl (by decide) rfl ?_
    refine lv_iload_n hx hb dX5_giveBall_33 rfl (lv_at hl 0 rfl) ?_
    refine lv_dup2_11 hx hb dX5_giveBall_34 rfl rfl ?_
    obtain ⟨b9, hf⟩ := ck_some hf
    refine g_iald S hK hw 1 0 b9 dX5_giveBall_35 rfl rfl ?_
    refine lv_iconst (v := (1 : Int32)) hx hb dX5_giveBall_36 (by decide) ?_
    refine lv_isub hx hb dX5_giveBall_37 ?_
    obtain ⟨b10, hf⟩ := ck_some hf
    refine g_iast (ws' := [(q_t, .inr (5, [.ref q_t_lengths, .ref q_t_riggings, .ref q_t_lesserSums, .int t_size, .int t_boxesRead])), (q_t_lengths, .inl (cI, 240, .inl (upd t_lengths r1.toNatClampNeg ((t_lengths r1.toNatClampNeg) - (1 : Int32))))), (q_t_riggings, .inl (cI, 240, .inl t_riggings)), (q_t_lesserSums, .inl (cI, 241, .inl u7))]) S hK hw 1 0 b10 dX5_giveBall_38 rfl rfl rfl (fun H locs hw => ?_)
    refine lv_aload_n hx hb dX5_giveBall_39 rfl (lv_at hl 1 rfl) ?_
    refine g_get (ci := 5) (C := RX5) (T := TX5) (N := 5) S hinX5 hK hw 0 0 k9 dX5_giveBall_40 rfl rfl (by decide) rfl ?_
    refine lv_iload_n hx hb dX5_giveBall_43 rfl (lv_at hl 0 rfl) ?_
    obtain ⟨b11, hf⟩ := ck_some hf
    refine g_iald S hK hw 1 0 b11 dX5_giveBall_44 rfl rfl ?_
    refine lv_if_ne (tgt := 56) hx hb dX5_giveBall_45 (by decide) (fun c12 => ?_) (fun c12 => ?_)
    · have hf := (if_neg c12).symm.trans hf
      refine lv_aload_n hx hb dX5_giveBall_56 rfl (lv_at hl 1 rfl) ?_
      refine g_get (ci := 5) (C := RX5) (T := TX5) (N := 5) S hinX5 hK hw 0 1 k15 dX5_giveBall_57 rfl rfl (by decide) rfl ?_
      refine lv_iload_n hx hb dX5_giveBall_60 rfl (lv_at hl 0 rfl) ?_
      refine lv_aload_n hx hb dX5_giveBall_61 rfl (lv_at hl 1 rfl) ?_
      refine lv_aload_n hx hb dX5_giveBall_62 rfl (lv_at hl 1 rfl) ?_
      refine g_get (ci := 5) (C := RX5) (T := TX5) (N := 5) S hinX5 hK hw 0 0 k9 dX5_giveBall_63 rfl rfl (by decide) rfl ?_
      refine lv_iload_n hx hb dX5_giveBall_66 rfl (lv_at hl 0 rfl) ?_
      obtain ⟨b13, hf⟩ := ck_some hf
      refine g_iald S hK hw 1 0 b13 dX5_giveBall_67 rfl rfl ?_
      refine lv_iload_n hx hb dX5_giveBall_68 rfl (lv_at hl 2 rfl) ?_
      obtain ⟨r14, h15, hf⟩ := bd1_some hf
      refine cl_i (wr := [(q_t_lengths, .inl (cI, 240, .inl (upd t_lengths r1.toNatClampNeg ((t_lengths r1.toNatClampNeg) - (1 : Int32))))), (q_t_riggings, .inl (cI, 240, .inl t_riggings))]) (ws' := [(q_t, .inr (5, [.ref q_t_lengths, .ref q_t_riggings, .ref q_t_lesserSums, .int t_size, .int t_boxesRead])), (q_t_lengths, .inl (cI, 240, .inl (upd t_lengths r1.toNatClampNeg ((t_lengths r1.toNatClampNeg) - (1 : Int32))))), (q_t_riggings, .inl (cI, 240, .inl t_riggings)), (q_t_lesserSums, .inl (cI, 241, .inl u7))]) hA hw [0, 3] [1, 2] [2, 0, 1, 3] rfl rfl rfl (by decide) rfl rfl (va_runV (As := [.int ((upd t_lengths r1.toNatClampNeg ((t_lengths r1.toNatClampNeg) - (1 : Int32))) r1.toNatClampNeg), .int p1]) (rest := [.int r1, .ref q_t_riggings]) S (c_X5_roomLeft l D cI cZ cJ cO _ q_t q_t_lengths q_t_riggings q_t_lesserSums N ((upd t_lengths r1.toNatClampNeg ((t_lengths r1.toNatClampNeg) - (1 : Int32))) r1.toNatClampNeg) p1 t_size t_boxesRead u7 r14 h15) (cwV 2 hts gX5_giveBall_X5_roomLeft rfl rfl rfl (by decide +kernel) ⟨Nat.le_of_ble_eq_true rfl, Nat.le_of_ble_eq_true rfl⟩) (pre_V hK hN hw [0, 3] rfl rfl (C := RX5) (T := TX5) (N := 5) (ci := 5) (q0 := 0) rfl rfl) rfl rfl hl.1 rfl (lv_room (Nat.le_of_ble_eq_true rfl)) dX5_giveBall_69 ⟨Nat.zero_le _, Nat.zero_le _⟩) (fun H locs hw => ?_)
      obtain ⟨b16, hf⟩ := ck_some hf
      refine g_iast (ws' := [(q_t, .inr (5, [.ref q_t_lengths, .ref q_t_riggings, .ref q_t_lesserSums, .int t_size, .int t_boxesRead])), (q_t_lengths, .inl (cI, 240, .inl (upd t_lengths r1.toNatClampNeg ((t_lengths r1.toNatClampNeg) - (1 : Int32))))), (q_t_riggings, .inl (cI, 240, .inl (upd t_riggings r1.toNatClampNeg r14))), (q_t_lesserSums, .inl (cI, 241, .inl u7))]) S hK hw 2 0 b16 dX5_giveBall_72 rfl rfl rfl (fun H locs hw => ?_)
      refine lv_iconst (v := (1 : Int32)) hx hb dX5_giveBall_73 (by decide) ?_
      obtain ⟨rfl, rfl, rfl, rfl, rfl⟩ := pr5 (Option.some.inj hf)
      exact rt_i S hr hlk hw dX5_giveBall_74
    · have hf := (if_pos c12).symm.trans hf
      refine lv_aload_n hx hb dX5_giveBall_48 rfl (lv_at hl 1 rfl) ?_
      refine lv_iload_n hx hb dX5_giveBall_49 rfl (lv_at hl 0 rfl) ?_
      obtain ⟨u17, u18, u19, h20, hf⟩ := bd3_some hf
      refine cl_v (wr := [(q_t_lesserSums, .inl (cI, 241, .inl u7))]) (ws' := [(q_t, .inr (5, [.ref q_t_lengths, .ref q_t_riggings, .ref q_t_lesserSums, .int u17, .int t_boxesRead])), (q_t_lengths, .inl (cI, 240, .inl u18)), (q_t_riggings, .inl (cI, 240, .inl u19)), (q_t_lesserSums, .inl (cI, 241, .inl u7))]) hA hw [0, 1, 2] [3] [1, 2, 3, 0] rfl rfl rfl (by decide) rfl rfl (va_runV (As := [.int r1]) (rest := []) S (c_X5_removeString l D cI cZ cJ cO _ q_t q_t_lengths q_t_riggings q_t_lesserSums N r1 t_size t_boxesRead (upd t_lengths r1.toNatClampNeg ((t_lengths r1.toNatClampNeg) - (1 : Int32))) t_riggings u17 u18 u19 h20) (cwV 1 hts gX5_giveBall_X5_removeString rfl rfl rfl (by decide +kernel) ⟨Nat.le_of_ble_eq_true rfl, Nat.le_of_ble_eq_true rfl⟩) (pre_V hK hN hw [0, 1, 2] rfl rfl (C := RX5) (T := TX5) (N := 5) (ci := 5) (q0 := 0) rfl rfl) rfl rfl hl.1 rfl (lv_room (Nat.le_of_ble_eq_true rfl)) dX5_giveBall_50 ⟨Nat.zero_le _, Nat.zero_le _⟩) (fun H locs hw => ?_)
      refine lv_goto (tgt := 73) hx hb dX5_giveBall_53 (by decide) ?_
      refine lv_iconst (v := (1 : Int32)) hx hb dX5_giveBall_73 (by decide) ?_
      obtain ⟨rfl, rfl, rfl, rfl, rfl⟩ := pr5 (Option.some.inj hf)
      exact rt_i S hr hlk hw dX5_giveBall_74
  · have hf := (if_pos c5).symm.trans hf
    refine lv_iconst (v := (0 : Int32)) hx hb dX5_giveBall_16 (by decide) ?_
    obtain ⟨rfl, rfl, rfl, rfl, rfl⟩ := pr5 (Option.some.inj hf)
    exact rt_i S hr hlk hw dX5_giveBall_17

def L_X5_makeInto_4 (N : Nat) (K : Int32 → (Nat → Int32) → (Nat → Int32) → (Nat → Int32) → (Nat → Int32) → Option (Int32 × Int32 × (Nat → Int32) × (Nat → Int32) × (Nat → Int32) × (Nat → Int32))) : Nat → Int32 → Int32 → (Nat → Int32) → (Nat → Int32) → (Nat → Int32) → (Nat → Int32) → Option (Int32 × Int32 × (Nat → Int32) × (Nat → Int32) × (Nat → Int32) × (Nat → Int32))
  | 0, _, _, _, _, _, _ => none
  | n + 1, x2, w_t_size, w_t_lengths, w_t_riggings, w_t_lesserSums, w_a1_made => (if x2 < (0 : Int32) then (K w_t_size w_t_lengths w_t_riggings w_t_lesserSums w_a1_made) else (bd5 (f_X5_giveBall N x2 w_t_size w_t_lengths w_t_riggings w_t_lesserSums) (fun r2 u3 u4 u5 u6 => (bd1 (f_X3_makeBox N x2 r2 w_a1_made) (fun u8 => (L_X5_makeInto_4 N K n (x2 + (-1 : Int32)) u3 u4 u5 u6 u8))))))

def f_X5_makeInto (N : Nat)  (t_size : Int32) (t_lengths : (Nat → Int32)) (t_riggings : (Nat → Int32)) (t_lesserSums : (Nat → Int32)) (a1_made : (Nat → Int32)) : Option (Int32 × Int32 × (Nat → Int32) × (Nat → Int32) × (Nat → Int32) × (Nat → Int32)) :=
  (L_X5_makeInto_4 N  (fun u10 u11 u12 u13 u14 => (if u10 = (0 : Int32) then (some ((1 : Int32), u10, u11, u12, u13, u14)) else (some ((0 : Int32), u10, u11, u12, u13, u14)))) N (239 : Int32) t_size t_lengths t_riggings t_lesserSums a1_made)

set_option maxHeartbeats 4000000 in
set_option maxRecDepth 100000 in
theorem c_X5_makeInto (l : Launch) (D : va_G) (cI cZ cJ cO : ClassId) (sz : Nat) (q_t q_t_lengths q_t_riggings q_t_lesserSums q_a1 q_a1_boxes q_a1_made : Nat) (N : Nat)  (t_size : Int32) (t_boxesRead : Int32) (t_lengths : (Nat → Int32)) (t_riggings : (Nat → Int32)) (t_lesserSums : (Nat → Int32)) (a1_made : (Nat → Int32)) (r : Int32) (o_t_size : Int32) (o_t_lengths : (Nat → Int32)) (o_t_riggings : (Nat → Int32)) (o_t_lesserSums : (Nat → Int32)) (o_a1_made : (Nat → Int32)) (hf : f_X5_makeInto N t_size t_lengths t_riggings t_lesserSums a1_made = some (r, o_t_size, o_t_lengths, o_t_riggings, o_t_lesserSums, o_a1_made)) : Met l yX5_makeInto wsX5_makeInto ({ frames := 5, cells := 0, slots := 0, locals := 109 }) (PreC D (TY cI cZ cJ cO) [.ref q_t, .ref q_a1] [(q_t, .inr (5, [.ref q_t_lengths, .ref q_t_riggings, .ref q_t_lesserSums, .int t_size, .int t_boxesRead])), (q_t_lengths, .inl (cI, 240, .inl t_lengths)), (q_t_riggings, .inl (cI, 240, .inl t_riggings)), (q_t_lesserSums, .inl (cI, 241, .inl t_lesserSums)), (q_a1, .inr (3, [.ref q_a1_boxes, .ref q_a1_made])), (q_a1_made, .inl (cI, 240, .inl a1_made))] sz) (QcI D [(q_t, .inr (5, [.ref q_t_lengths, .ref q_t_riggings, .ref q_t_lesserSums, .int o_t_size, .int t_boxesRead])), (q_t_lengths, .inl (cI, 240, .inl o_t_lengths)), (q_t_riggings, .inl (cI, 240, .inl o_t_riggings)), (q_t_lesserSums, .inl (cI, 241, .inl o_t_lesserSums)), (q_a1, .inr (3, [.ref q_a1_boxes, .ref q_a1_made])), (q_a1_made, .inl (cI, 240, .inl o_a1_made))] (va_A [(q_t, .inr (5, [.ref q_t_lengths, .ref q_t_riggings, .ref q_t_lesserSums, .int t_size, .int t_boxesRead])), (q_t_lengths, .inl (cI, 240, .inl t_lengths)), (q_t_riggings, .inl (cI, 240, .inl t_riggings)), (q_t_lesserSums, .inl (cI, 241, .inl t_lesserSums)), (q_a1, .inr (3, [.ref q_a1_boxes, .ref q_a1_made])), (q_a1_made, .inl (cI, 240, .inl a1_made))] sz) r) 0 0 (va_A [(q_t, .inr (5, [.ref q_t_lengths, .ref q_t_riggings, .ref q_t_lesserSums, .int t_size, .int t_boxesRead])), (q_t_lengths, .inl (cI, 240, .inl t_lengths)), (q_t_riggings, .inl (cI, 240, .inl t_riggings)), (q_t_lesserSums, .inl (cI, 241, .inl t_lesserSums)), (q_a1, .inr (3, [.ref q_a1_boxes, .ref q_a1_made])), (q_a1_made, .inl (cI, 240, .inl a1_made))] sz) := by
  refine ctr (cc := cX5_makeInto) (maxL := 3) (ret := (some .boolean)) (by decide) rfl (Nat.le_of_ble_eq_true rfl) ?_
  intro p e s m below meth c S hr hlk hnm hK hN hsz hA hw ls hl
  generalize va_A [(q_t, .inr (5, [.ref q_t_lengths, .ref q_t_riggings, .ref q_t_lesserSums, .int t_size, .int t_boxesRead])), (q_t_lengths, .inl (cI, 240, .inl t_lengths)), (q_t_riggings, .inl (cI, 240, .inl t_riggings)), (q_t_lesserSums, .inl (cI, 241, .inl t_lesserSums)), (q_a1, .inr (3, [.ref q_a1_boxes, .ref q_a1_made])), (q_a1_made, .inl (cI, 240, .inl a1_made))] sz = A at hA hw ⊢
  have S : CallFix p m c cX5_makeInto 3 s ([.ref q_t, .ref q_a1] : List Value).toArray wsX5_makeInto RX5 := S
  have hx := S.1
  have hb := S.2.1
  have hts := S.2.2.2.2
  have hl : lv_has ls 3 [(0, .ref q_t), (1, .ref q_a1)] := hl
  have hinX5 : ∀ w ∈ u_ws RX5 TX5 5, w ∈ wsX5_makeInto := by decide +kernel
  have k21 : Cond.fieldLink RX5 21 "BallBoxes$Strings" "size" "I" ∈ wsX5_makeInto := by decide +kernel
  have Lp4 : ∀  (K : Int32 → (Nat → Int32) → (Nat → Int32) → (Nat → Int32) → (Nat → Int32) → Option (Int32 × Int32 × (Nat → Int32) × (Nat → Int32) × (Nat → Int32) × (Nat → Int32))), (∀ (z_t_size : Int32) (z_t_lengths : (Nat → Int32)) (z_t_riggings : (Nat → Int32)) (z_t_lesserSums : (Nat → Int32)) (z_a1_made : (Nat → Int32)) (H : Heap) (locs : List Loc) (ls : Array Slot), Wd D A s.heap [(q_t, .inr (5, [.ref q_t_lengths, .ref q_t_riggings, .ref q_t_lesserSums, .int z_t_size, .int t_boxesRead])), (q_t_lengths, .inl (cI, 240, .inl z_t_lengths)), (q_t_riggings, .inl (cI, 240, .inl z_t_riggings)), (q_t_lesserSums, .inl (cI, 241, .inl z_t_lesserSums)), (q_a1, .inr (3, [.ref q_a1_boxes, .ref q_a1_made])), (q_a1_made, .inl (cI, 240, .inl z_a1_made))] H locs → lv_has ls 3 [(0, .ref q_t)] → K z_t_size z_t_lengths z_t_riggings z_t_lesserSums z_a1_made = some (r, o_t_size, o_t_lengths, o_t_riggings, o_t_lesserSums, o_a1_made) → W p l e ({ frames := 5, cells := 0, slots := 0, locals := 109 } : Room) s m ([.ref q_t, .ref q_a1] : List Value).toArray below meth c H locs 0 0 (MQ below (QcI D [(q_t, .inr (5, [.ref q_t_lengths, .ref q_t_riggings, .ref q_t_lesserSums, .int o_t_size, .int t_boxesRead])), (q_t_lengths, .inl (cI, 240, .inl o_t_lengths)), (q_t_riggings, .inl (cI, 240, .inl o_t_riggings)), (q_t_lesserSums, .inl (cI, 241, .inl o_t_lesserSums)), (q_a1, .inr (3, [.ref q_a1_boxes, .ref q_a1_made])), (q_a1_made, .inl (cI, 240, .inl o_a1_made))] A r) ([.ref q_t, .ref q_a1] : List Value).toArray s 0 0 A) (F0 m 24 ls [])) → ∀ (n : Nat) (x2 : Int32) (w_t_size : Int32) (w_t_lengths : (Nat → Int32)) (w_t_riggings : (Nat → Int32)) (w_t_lesserSums : (Nat → Int32)) (w_a1_made : (Nat → Int32)) (H : Heap) (locs : List Loc) (ls : Array Slot), Wd D A s.heap [(q_t, .inr (5, [.ref q_t_lengths, .ref q_t_riggings, .ref q_t_lesserSums, .int w_t_size, .int t_boxesRead])), (q_t_lengths, .inl (cI, 240, .inl w_t_lengths)), (q_t_riggings, .inl (cI, 240, .inl w_t_riggings)), (q_t_lesserSums, .inl (cI, 241, .inl w_t_lesserSums)), (q_a1, .inr (3, [.ref q_a1_boxes, .ref q_a1_made])), (q_a1_made, .inl (cI, 240, .inl w_a1_made))] H locs → lv_has ls 3 [(0, .ref q_t), (1, .ref q_a1), (2, .int x2)] → L_X5_makeInto_4 N K n x2 w_t_size w_t_lengths w_t_riggings w_t_lesserSums w_a1_made = some (r, o_t_size, o_t_lengths, o_t_riggings, o_t_lesserSums, o_a1_made) → W p l e ({ frames := 5, cells := 0, slots := 0, locals := 109 } : Room) s m ([.ref q_t, .ref q_a1] : List Value).toArray below meth c H locs 0 0 (MQ below (QcI D [(q_t, .inr (5, [.ref q_t_lengths, .ref q_t_riggings, .ref q_t_lesserSums, .int o_t_size, .int t_boxesRead])), (q_t_lengths, .inl (cI, 240, .inl o_t_lengths)), (q_t_riggings, .inl (cI, 240, .inl o_t_riggings)), (q_t_lesserSums, .inl (cI, 241, .inl o_t_lesserSums)), (q_a1, .inr (3, [.ref q_a1_boxes, .ref q_a1_made])), (q_a1_made, .inl (cI, 240, .inl o_a1_made))] A r) ([.ref q_t, .ref q_a1] : List Value).toArray s 0 0 A) (F0 m 4 ls []) := by
    intro  K hKx n
    induction n with
    | zero =>
      intro x2 w_t_size w_t_lengths w_t_riggings w_t_lesserSums w_a1_made H locs ls hw hl hf
      rw [L_X5_makeInto_4] at hf
      cases hf
    | succ n ih =>
      intro x2 w_t_size w_t_lengths w_t_riggings w_t_lesserSums w_a1_made H locs ls hw hl hf
      rw [L_X5_makeInto_4] at hf
      refine lv_iload_n hx hb dX5_makeInto_4 rfl (lv_at hl 2 rfl) ?_
      refine lv_if_lt (tgt := 24) hx hb dX5_makeInto_5 (by decide) (fun c1 => ?_) (fun c1 => ?_)
      · have hf := (if_pos c1).symm.trans hf
        exact hKx w_t_size w_t_lengths w_t_riggings w_t_lesserSums w_a1_made _ _ _ hw (lv_sub hl [0] rfl) hf
      · have hf := (if_neg c1).symm.trans hf
        refine lv_aload_n hx hb dX5_makeInto_8 rfl (lv_at hl 1 rfl) ?_
        refine lv_iload_n hx hb dX5_makeInto_9 rfl (lv_at hl 2 rfl) ?_
        refine lv_aload_n hx hb dX5_makeInto_10 rfl (lv_at hl 0 rfl) ?_
        refine lv_iload_n hx hb dX5_makeInto_11 rfl (lv_at hl 2 rfl) ?_
        obtain ⟨r2, u3, u4, u5, u6, h7, hf⟩ := bd5_some hf
        refine cl_i (wr := [(q_a1, .inr (3, [.ref q_a1_boxes, .ref q_a1_made])), (q_a1_made, .inl (cI, 240, .inl w_a1_made))]) (ws' := [(q_t, .inr (5, [.ref q_t_lengths, .ref q_t_riggings, .ref q_t_lesserSums, .int u3, .int t_boxesRead])), (q_t_lengths, .inl (cI, 240, .inl u4)), (q_t_riggings, .inl (cI, 240, .inl u5)), (q_t_lesserSums, .inl (cI, 241, .inl u6)), (q_a1, .inr (3, [.ref q_a1_boxes, .ref q_a1_made])), (q_a1_made, .inl (cI, 240, .inl w_a1_made))]) hA hw [0, 1, 2, 3] [4, 5] [2, 3, 4, 5, 0, 1] rfl rfl rfl (by decide) rfl rfl (va_runV (As := [.int x2]) (rest := [.int x2, .ref q_a1]) S (c_X5_giveBall l D cI cZ cJ cO _ q_t q_t_lengths q_t_riggings q_t_lesserSums N x2 w_t_size t_boxesRead w_t_lengths w_t_riggings w_t_lesserSums r2 u3 u4 u5 u6 h7) (cwV 1 hts gX5_makeInto_X5_giveBall rfl rfl rfl (by decide +kernel) ⟨Nat.le_of_ble_eq_true rfl, Nat.le_of_ble_eq_true rfl⟩) (pre_V hK hN hw [0, 1, 2, 3] rfl rfl (C := RX5) (T := TX5) (N := 5) (ci := 5) (q0 := 0) rfl rfl) rfl rfl hl.1 rfl (lv_room (Nat.le_of_ble_eq_true rfl)) dX5_makeInto_12 ⟨Nat.zero_le _, Nat.zero_le _⟩) (fun H locs hw => ?_)
        obtain ⟨u8, h9, hf⟩ := bd1_some hf
        refine cl_v (wr := [(q_t, .inr (5, [.ref q_t_lengths, .ref q_t_riggings, .ref q_t_lesserSums, .int u3, .int t_boxesRead])), (q_t_lengths, .inl (cI, 240, .inl u4)), (q_t_riggings, .inl (cI, 240, .inl u5)), (q_t_lesserSums, .inl (cI, 241, .inl u6))]) (ws' := [(q_t, .inr (5, [.ref q_t_lengths, .ref q_t_riggings, .ref q_t_lesserSums, .int u3, .int t_boxesRead])), (q_t_lengths, .inl (cI, 240, .inl u4)), (q_t_riggings, .inl (cI, 240, .inl u5)), (q_t_lesserSums, .inl (cI, 241, .inl u6)), (q_a1, .inr (3, [.ref q_a1_boxes, .ref q_a1_made])), (q_a1_made, .inl (cI, 240, .inl u8))]) hA hw [4, 5] [0, 1, 2, 3] [0, 1, 2, 3, 4, 5] rfl rfl rfl (by decide) rfl rfl (va_runV (As := [.int x2, .int r2]) (rest := []) S (c_X3_makeBox l D cI cZ cJ cO _ q_a1 q_a1_boxes q_a1_made N x2 r2 w_a1_made u8 h9) (cwV 2 hts gX5_makeInto_X3_makeBox rfl rfl rfl (by decide +kernel) ⟨Nat.le_of_ble_eq_true rfl, Nat.le_of_ble_eq_true rfl⟩) (pre_V hK hN hw [4, 5] rfl rfl (C := RX3) (T := TX3) (N := 2) (ci := 3) (q0 := 0) rfl rfl) rfl rfl hl.1 rfl (lv_room (Nat.le_of_ble_eq_true rfl)) dX5_makeInto_15 ⟨Nat.zero_le _, Nat.zero_le _⟩) (fun H locs hw => ?_)
        refine lv_iinc (v := (x2 + (-1 : Int32))) (lv' := [(2, .int (x2 + (-1 : Int32))), (0, .ref q_t), (1, .ref q_a1)]) hx hb dX5_makeInto_18 hl (k := 2) rfl rfl (by decide) rfl (fun ls hl => ?_)
        refine lv_goto (tgt := 4) hx hb dX5_makeInto_21 (by decide) ?_
        exact ih (x2 + (-1 : Int32)) u3 u4 u5 u6 u8 _ _ _ hw (lv_sub hl [1, 2, 0] rfl) hf
  unfold f_X5_makeInto at hf
  refine lv_sipush (v := (239 : Int32)) hx hb dX5_makeInto_0 (by decide) ?_
  refine lv_istore_n (lv' := [(2, .int (239 : Int32)), (0, .ref q_t), (1, .ref q_a1)]) hx hb dX5_makeInto_3 rfl hl (by decide) rfl (fun ls hl => ?_)
  refine Lp4  _ (fun u10 u11 u12 u13 u14 H locs ls hw hl hf => ?_) N (239 : Int32) t_size t_lengths t_riggings t_lesserSums a1_made _ _ _ hw (lv_sub hl [1, 2, 0] rfl) hf
  refine lv_aload_n hx hb dX5_makeInto_24 rfl (lv_at hl 0 rfl) ?_
  refine g_get (ci := 5) (C := RX5) (T := TX5) (N := 5) S hinX5 hK hw 0 3 k21 dX5_makeInto_25 rfl rfl (by decide) rfl ?_
  refine lv_if_ne (tgt := 35) hx hb dX5_makeInto_28 (by decide) (fun c15 => ?_) (fun c15 => ?_)
  · have hf := (if_neg c15).symm.trans hf
    refine lv_iconst (v := (0 : Int32)) hx hb dX5_makeInto_35 (by decide) ?_
    obtain ⟨rfl, rfl, rfl, rfl, rfl, rfl⟩ := pr6 (Option.some.inj hf)
    exact rt_z S hr hlk hw dX5_makeInto_36 rfl
  · have hf := (if_pos c15).symm.trans hf
    refine lv_iconst (v := (1 : Int32)) hx hb dX5_makeInto_31 (by decide) ?_
    refine lv_goto (tgt := 36) hx hb dX5_makeInto_32 (by decide) ?_
    obtain ⟨rfl, rfl, rfl, rfl, rfl, rfl⟩ := pr6 (Option.some.inj hf)
    exact rt_z S hr hlk hw dX5_makeInto_36 rfl

def L_X5_addToRiggings_2 (N : Nat) (x1 : Int32) (x2 : Int32) (t_size : Int32) (t_lengths : (Nat → Int32)) (K : (Nat → Int32) → Option ((Nat → Int32))) : Nat → Int32 → (Nat → Int32) → Option ((Nat → Int32))
  | 0, _, _ => none
  | n + 1, x3, w_t_riggings => (if t_size ≤ x3 then (K w_t_riggings) else (if (240 : Int32) ≤ x3 then (K w_t_riggings) else (ck (inb x3 240) (ck (inb x3 240) (ck (inb x3 240) (L_X5_addToRiggings_2 N x1 x2 t_size t_lengths K n (x3 + (1 : Int32)) (upd w_t_riggings x3.toNatClampNeg ((w_t_riggings x3.toNatClampNeg) + (x2 * (mnI x1 (t_lengths x3.toNatClampNeg)))))))))))

def f_X5_addToRiggings (N : Nat) (p1 : Int32) (p2 : Int32) (t_size : Int32) (t_lengths : (Nat → Int32)) (t_riggings : (Nat → Int32)) : Option ((Nat → Int32)) :=
  (L_X5_addToRiggings_2 N p1 p2 t_size t_lengths (fun u6 => (some u6)) N (0 : Int32) t_riggings)

set_option maxHeartbeats 4000000 in
set_option maxRecDepth 100000 in
theorem c_X5_addToRiggings (l : Launch) (D : va_G) (cI cZ cJ cO : ClassId) (sz : Nat) (q_t q_t_lengths q_t_riggings q_t_lesserSums : Nat) (N : Nat) (p1 : Int32) (p2 : Int32) (t_size : Int32) (t_boxesRead : Int32) (t_lengths : (Nat → Int32)) (t_riggings : (Nat → Int32)) (o_t_riggings : (Nat → Int32)) (hf : f_X5_addToRiggings N p1 p2 t_size t_lengths t_riggings = some o_t_riggings) : Met l yX5_addToRiggings wsX5_addToRiggings ({ frames := 1, cells := 0, slots := 0, locals := 21 }) (PreC D (TY cI cZ cJ cO) [.ref q_t, .int p1, .int p2] [(q_t, .inr (5, [.ref q_t_lengths, .ref q_t_riggings, .ref q_t_lesserSums, .int t_size, .int t_boxesRead])), (q_t_lengths, .inl (cI, 240, .inl t_lengths)), (q_t_riggings, .inl (cI, 240, .inl t_riggings))] sz) (QcV D [(q_t, .inr (5, [.ref q_t_lengths, .ref q_t_riggings, .ref q_t_lesserSums, .int t_size, .int t_boxesRead])), (q_t_lengths, .inl (cI, 240, .inl t_lengths)), (q_t_riggings, .inl (cI, 240, .inl o_t_riggings))] (va_A [(q_t, .inr (5, [.ref q_t_lengths, .ref q_t_riggings, .ref q_t_lesserSums, .int t_size, .int t_boxesRead])), (q_t_lengths, .inl (cI, 240, .inl t_lengths)), (q_t_riggings, .inl (cI, 240, .inl t_riggings))] sz)) 0 0 (va_A [(q_t, .inr (5, [.ref q_t_lengths, .ref q_t_riggings, .ref q_t_lesserSums, .int t_size, .int t_boxesRead])), (q_t_lengths, .inl (cI, 240, .inl t_lengths)), (q_t_riggings, .inl (cI, 240, .inl t_riggings))] sz) := by
  refine ctr (cc := cX5_addToRiggings) (maxL := 4) (ret := none) (by decide) rfl (Nat.le_of_ble_eq_true rfl) ?_
  intro p e s m below meth c S hr hlk hnm hK hN hsz hA hw ls hl
  generalize va_A [(q_t, .inr (5, [.ref q_t_lengths, .ref q_t_riggings, .ref q_t_lesserSums, .int t_size, .int t_boxesRead])), (q_t_lengths, .inl (cI, 240, .inl t_lengths)), (q_t_riggings, .inl (cI, 240, .inl t_riggings))] sz = A at hA hw ⊢
  have S : CallFix p m c cX5_addToRiggings 4 s ([.ref q_t, .int p1, .int p2] : List Value).toArray wsX5_addToRiggings RX5 := S
  have hx := S.1
  have hb := S.2.1
  have hts := S.2.2.2.2
  have hl : lv_has ls 4 [(0, .ref q_t), (1, .int p1), (2, .int p2)] := hl
  have hinX5 : ∀ w ∈ u_ws RX5 TX5 5, w ∈ wsX5_addToRiggings := by decide +kernel
  have k9 : Cond.fieldLink RX5 9 "BallBoxes$Strings" "lengths" "[I" ∈ wsX5_addToRiggings := by decide +kernel
  have k15 : Cond.fieldLink RX5 15 "BallBoxes$Strings" "riggings" "[I" ∈ wsX5_addToRiggings := by decide +kernel
  have k21 : Cond.fieldLink RX5 21 "BallBoxes$Strings" "size" "I" ∈ wsX5_addToRiggings := by decide +kernel
  have Lp2 : ∀ (x1 : Int32) (x2 : Int32) (K : (Nat → Int32) → Option ((Nat → Int32))), (∀ (z_t_riggings : (Nat → Int32)) (H : Heap) (locs : List Loc) (ls : Array Slot), Wd D A s.heap [(q_t, .inr (5, [.ref q_t_lengths, .ref q_t_riggings, .ref q_t_lesserSums, .int t_size, .int t_boxesRead])), (q_t_lengths, .inl (cI, 240, .inl t_lengths)), (q_t_riggings, .inl (cI, 240, .inl z_t_riggings))] H locs → lv_has ls 4 [] → K z_t_riggings = some o_t_riggings → W p l e ({ frames := 1, cells := 0, slots := 0, locals := 21 } : Room) s m ([.ref q_t, .int p1, .int p2] : List Value).toArray below meth c H locs 0 0 (MQ below (QcV D [(q_t, .inr (5, [.ref q_t_lengths, .ref q_t_riggings, .ref q_t_lesserSums, .int t_size, .int t_boxesRead])), (q_t_lengths, .inl (cI, 240, .inl t_lengths)), (q_t_riggings, .inl (cI, 240, .inl o_t_riggings))] A) ([.ref q_t, .int p1, .int p2] : List Value).toArray s 0 0 A) (F0 m 44 ls [])) → ∀ (n : Nat) (x3 : Int32) (w_t_riggings : (Nat → Int32)) (H : Heap) (locs : List Loc) (ls : Array Slot), Wd D A s.heap [(q_t, .inr (5, [.ref q_t_lengths, .ref q_t_riggings, .ref q_t_lesserSums, .int t_size, .int t_boxesRead])), (q_t_lengths, .inl (cI, 240, .inl t_lengths)), (q_t_riggings, .inl (cI, 240, .inl w_t_riggings))] H locs → lv_has ls 4 [(0, .ref q_t), (1, .int x1), (2, .int x2), (3, .int x3)] → L_X5_addToRiggings_2 N x1 x2 t_size t_lengths K n x3 w_t_riggings = some o_t_riggings → W p l e ({ frames := 1, cells := 0, slots := 0, locals := 21 } : Room) s m ([.ref q_t, .int p1, .int p2] : List Value).toArray below meth c H locs 0 0 (MQ below (QcV D [(q_t, .inr (5, [.ref q_t_lengths, .ref q_t_riggings, .ref q_t_lesserSums, .int t_size, .int t_boxesRead])), (q_t_lengths, .inl (cI, 240, .inl t_lengths)), (q_t_riggings, .inl (cI, 240, .inl o_t_riggings))] A) ([.ref q_t, .int p1, .int p2] : List Value).toArray s 0 0 A) (F0 m 2 ls []) := by
    intro x1 x2 K hKx n
    induction n with
    | zero =>
      intro x3 w_t_riggings H locs ls hw hl hf
      rw [L_X5_addToRiggings_2] at hf
      cases hf
    | succ n ih =>
      intro x3 w_t_riggings H locs ls hw hl hf
      rw [L_X5_addToRiggings_2] at hf
      refine lv_iload_n hx hb dX5_addToRiggings_2 rfl (lv_at hl 3 rfl) ?_
      refine lv_aload_n hx hb dX5_addToRiggings_3 rfl (lv_at hl 0 rfl) ?_
      refine g_get (ci := 5) (C := RX5) (T := TX5) (N := 5) S hinX5 hK hw 0 3 k21 dX5_addToRiggings_4 rfl rfl (by decide) rfl ?_
      refine lv_icmp_ge (tgt := 44) hx hb dX5_addToRiggings_7 (by decide) (fun c1 => ?_) (fun c1 => ?_)
      · have hf := (if_pos c1).symm.trans hf
        exact hKx w_t_riggings _ _ _ hw (lv_sub hl [] rfl) hf
      · have hf := (if_neg c1).symm.trans hf
        refine lv_iload_n hx hb dX5_addToRiggings_10 rfl (lv_at hl 3 rfl) ?_
        refine lv_sipush (v := (240 : Int32)) hx hb dX5_addToRiggings_11 (by decide) ?_
        refine lv_icmp_ge (tgt := 44) hx hb dX5_addToRiggings_14 (by decide) (fun c2 => ?_) (fun c2 => ?_)
        · have hf := (if_pos c2).symm.trans hf
          exact hKx w_t_riggings _ _ _ hw (lv_sub hl [] rfl) hf
        · have hf := (if_neg c2).symm.trans hf
          refine lv_aload_n hx hb dX5_addToRiggings_17 rfl (lv_at hl 0 rfl) ?_
          refine g_get (ci := 5) (C := RX5) (T := TX5) (N := 5) S hinX5 hK hw 0 1 k15 dX5_addToRiggings_18 rfl rfl (by decide) rfl ?_
          refine lv_iload_n hx hb dX5_addToRiggings_21 rfl (lv_at hl 3 rfl) ?_
          refine lv_dup2_11 hx hb dX5_addToRiggings_22 rfl rfl ?_
          obtain ⟨b3, hf⟩ := ck_some hf
          refine g_iald S hK hw 2 0 b3 dX5_addToRiggings_23 rfl rfl ?_
          refine lv_iload_n hx hb dX5_addToRiggings_24 rfl (lv_at hl 2 rfl) ?_
          refine lv_iload_n hx hb dX5_addToRiggings_25 rfl (lv_at hl 1 rfl) ?_
          refine lv_aload_n hx hb dX5_addToRiggings_26 rfl (lv_at hl 0 rfl) ?_
          refine g_get (ci := 5) (C := RX5) (T := TX5) (N := 5) S hinX5 hK hw 0 0 k9 dX5_addToRiggings_27 rfl rfl (by decide) rfl ?_
          refine lv_iload_n hx hb dX5_addToRiggings_30 rfl (lv_at hl 3 rfl) ?_
          obtain ⟨b4, hf⟩ := ck_some hf
          refine g_iald S hK hw 1 0 b4 dX5_addToRiggings_31 rfl rfl ?_
          refine va_mmin hx hb (S.2.2.1.trans hl.1.symm) S.2.2.2.1 (hts (.methodLink RX5 52 Lib.Math.min.name) (by decide +kernel)) (hts (.static Lib.Math.min.name) (by decide +kernel)) (hts (.initialized "java/lang/Math") (by decide +kernel)) (hts (.code Lib.Math.min.name Lib.Math.min.code 2 (some .int)) (by decide +kernel)) (Nat.le_of_ble_eq_true rfl) (Nat.le_of_ble_eq_true rfl) (Nat.zero_le _) (Nat.zero_le _) dX5_addToRiggings_32 ?_
          refine W.eq (g2 := F0 m 35 ls [.int (mnI x1 (t_lengths x3.toNatClampNeg)), .int x2, .int (w_t_riggings x3.toNatClampNeg), .int x3, .ref q_t_riggings]) rfl ?_
          refine lv_imul hx hb dX5_addToRiggings_35 ?_
          refine lv_iadd hx hb dX5_addToRiggings_36 ?_
          obtain ⟨b5, hf⟩ := ck_some hf
          refine g_iast (ws' := [(q_t, .inr (5, [.ref q_t_lengths, .ref q_t_riggings, .ref q_t_lesserSums, .int t_size, .int t_boxesRead])), (q_t_lengths, .inl (cI, 240, .inl t_lengths)), (q_t_riggings, .inl (cI, 240, .inl (upd w_t_riggings x3.toNatClampNeg ((w_t_riggings x3.toNatClampNeg) + (x2 * (mnI x1 (t_lengths x3.toNatClampNeg)))))))]) S hK hw 2 0 b5 dX5_addToRiggings_37 rfl rfl rfl (fun H locs hw => ?_)
          refine lv_iinc (v := (x3 + (1 : Int32))) (lv' := [(3, .int (x3 + (1 : Int32))), (0, .ref q_t), (1, .int x1), (2, .int x2)]) hx hb dX5_addToRiggings_38 hl (k := 3) rfl rfl (by decide) rfl (fun ls hl => ?_)
          refine lv_goto (tgt := 2) hx hb dX5_addToRiggings_41 (by decide) ?_
          exact ih (x3 + (1 : Int32)) (upd w_t_riggings x3.toNatClampNeg ((w_t_riggings x3.toNatClampNeg) + (x2 * (mnI x1 (t_lengths x3.toNatClampNeg))))) _ _ _ hw (lv_sub hl [1, 2, 3, 0] rfl) hf
  unfold f_X5_addToRiggings at hf
  refine lv_iconst (v := (0 : Int32)) hx hb dX5_addToRiggings_0 (by decide) ?_
  refine lv_istore_n (lv' := [(3, .int (0 : Int32)), (0, .ref q_t), (1, .int p1), (2, .int p2)]) hx hb dX5_addToRiggings_1 rfl hl (by decide) rfl (fun ls hl => ?_)
  refine Lp2 p1 p2 _ (fun u6 H locs ls hw hl hf => ?_) N (0 : Int32) t_riggings _ _ _ hw (lv_sub hl [1, 2, 3, 0] rfl) hf
  obtain rfl := Option.some.inj hf
  exact rt_v S hr hlk hw dX5_addToRiggings_44
