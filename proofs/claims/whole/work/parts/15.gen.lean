def L_X7_room_5 (N : Nat) (x1 : Int32) (t_many : Int32) (t_lengths : (Nat → Int32)) (K : Int32 → Option (Int32)) : Nat → Int32 → Int32 → Option (Int32)
  | 0, _, _ => none
  | n + 1, x3, x4 => (if t_many ≤ x4 then (K x3) else (ck (inb x4 241) (if (t_lengths x4.toNatClampNeg) ≤ x1 then (ck (inb x4 241) (L_X7_room_5 N x1 t_many t_lengths K n (x3 + (t_lengths x4.toNatClampNeg)) (x4 + (1 : Int32)))) else (L_X7_room_5 N x1 t_many t_lengths K n (x3 + x1) (x4 + (1 : Int32))))))

def f_X7_room (N : Nat) (p1 : Int32) (p2 : Int32) (t_many : Int32) (t_lengths : (Nat → Int32)) : Option (Int32) :=
  (L_X7_room_5 N p1 t_many t_lengths (fun y5 => (some (p2 - ((2 : Int32) * y5)))) N (0 : Int32) (0 : Int32))

set_option maxHeartbeats 4000000 in
set_option maxRecDepth 100000 in
theorem c_X7_room (l : Launch) (D : va_G) (cI cZ cJ cO : ClassId) (sz : Nat) (q_t q_t_boxes q_t_next q_t_left q_t_pairs q_t_lengths q_t_riggings q_t_toldLength q_t_toldRigging q_t_toldRoom q_t_ring q_t_was q_t_saved q_t_isThere q_t_forms q_t_sizes q_t_items q_t_moved : Nat) (N : Nat) (p1 : Int32) (p2 : Int32) (t_done : Int32) (t_many : Int32) (t_told : Int32) (t_ringN : Int32) (t_finding : Int32) (t_lengths : (Nat → Int32)) (r : Int32) (hf : f_X7_room N p1 p2 t_many t_lengths = some r) : Met l yX7_room wsX7_room ({ frames := 0, cells := 0, slots := 0, locals := 0 }) (PreC D (TY cI cZ cJ cO) [.ref q_t, .int p1, .int p2] [(q_t, .inr (7, [.ref q_t_boxes, .ref q_t_next, .int t_done, .ref q_t_left, .ref q_t_pairs, .int t_many, .ref q_t_lengths, .ref q_t_riggings, .int t_told, .ref q_t_toldLength, .ref q_t_toldRigging, .ref q_t_toldRoom, .int t_ringN, .ref q_t_ring, .ref q_t_was, .ref q_t_saved, .ref q_t_isThere, .ref q_t_forms, .ref q_t_sizes, .ref q_t_items, .ref q_t_moved, .int t_finding])), (q_t_lengths, .inl (cI, 241, .inl t_lengths))] sz) (QcI D [(q_t, .inr (7, [.ref q_t_boxes, .ref q_t_next, .int t_done, .ref q_t_left, .ref q_t_pairs, .int t_many, .ref q_t_lengths, .ref q_t_riggings, .int t_told, .ref q_t_toldLength, .ref q_t_toldRigging, .ref q_t_toldRoom, .int t_ringN, .ref q_t_ring, .ref q_t_was, .ref q_t_saved, .ref q_t_isThere, .ref q_t_forms, .ref q_t_sizes, .ref q_t_items, .ref q_t_moved, .int t_finding])), (q_t_lengths, .inl (cI, 241, .inl t_lengths))] (va_A [(q_t, .inr (7, [.ref q_t_boxes, .ref q_t_next, .int t_done, .ref q_t_left, .ref q_t_pairs, .int t_many, .ref q_t_lengths, .ref q_t_riggings, .int t_told, .ref q_t_toldLength, .ref q_t_toldRigging, .ref q_t_toldRoom, .int t_ringN, .ref q_t_ring, .ref q_t_was, .ref q_t_saved, .ref q_t_isThere, .ref q_t_forms, .ref q_t_sizes, .ref q_t_items, .ref q_t_moved, .int t_finding])), (q_t_lengths, .inl (cI, 241, .inl t_lengths))] sz) r) 0 0 (va_A [(q_t, .inr (7, [.ref q_t_boxes, .ref q_t_next, .int t_done, .ref q_t_left, .ref q_t_pairs, .int t_many, .ref q_t_lengths, .ref q_t_riggings, .int t_told, .ref q_t_toldLength, .ref q_t_toldRigging, .ref q_t_toldRoom, .int t_ringN, .ref q_t_ring, .ref q_t_was, .ref q_t_saved, .ref q_t_isThere, .ref q_t_forms, .ref q_t_sizes, .ref q_t_items, .ref q_t_moved, .int t_finding])), (q_t_lengths, .inl (cI, 241, .inl t_lengths))] sz) := by
  refine ctr (cc := cX7_room) (maxL := 5) (ret := (some .int)) (by decide) rfl (Nat.le_of_ble_eq_true rfl) ?_
  intro p e s m below meth c S hr hlk hnm hK hN hsz hA hw ls hl
  generalize va_A [(q_t, .inr (7, [.ref q_t_boxes, .ref q_t_next, .int t_done, .ref q_t_left, .ref q_t_pairs, .int t_many, .ref q_t_lengths, .ref q_t_riggings, .int t_told, .ref q_t_toldLength, .ref q_t_toldRigging, .ref q_t_toldRoom, .int t_ringN, .ref q_t_ring, .ref q_t_was, .ref q_t_saved, .ref q_t_isThere, .ref q_t_forms, .ref q_t_sizes, .ref q_t_items, .ref q_t_moved, .int t_finding])), (q_t_lengths, .inl (cI, 241, .inl t_lengths))] sz = A at hA hw ⊢
  have S : CallFix p m c cX7_room 5 s ([.ref q_t, .int p1, .int p2] : List Value).toArray wsX7_room RX7 := S
  have hx := S.1
  have hb := S.2.1
  have hts := S.2.2.2.2
  have hl : lv_has ls 5 [(0, .ref q_t), (1, .int p1), (2, .int p2)] := hl
  have hinX7 : ∀ w ∈ u_ws RX7 TX7 22, w ∈ wsX7_room := by decide +kernel
  have k23 : Cond.fieldLink RX7 23 "BallBoxesModel" "lengths" "[I" ∈ wsX7_room := by decide +kernel
  have k87 : Cond.fieldLink RX7 87 "BallBoxesModel" "many" "I" ∈ wsX7_room := by decide +kernel
  have Lp5 : ∀ (x1 : Int32) (x2 : Int32) (K : Int32 → Option (Int32)), (∀ (z3 : Int32) (H : Heap) (locs : List Loc) (ls : Array Slot), Wd D A s.heap [(q_t, .inr (7, [.ref q_t_boxes, .ref q_t_next, .int t_done, .ref q_t_left, .ref q_t_pairs, .int t_many, .ref q_t_lengths, .ref q_t_riggings, .int t_told, .ref q_t_toldLength, .ref q_t_toldRigging, .ref q_t_toldRoom, .int t_ringN, .ref q_t_ring, .ref q_t_was, .ref q_t_saved, .ref q_t_isThere, .ref q_t_forms, .ref q_t_sizes, .ref q_t_items, .ref q_t_moved, .int t_finding])), (q_t_lengths, .inl (cI, 241, .inl t_lengths))] H locs → lv_has ls 5 [(2, .int x2), (3, .int z3)] → K z3 = some r → W p l e ({ frames := 0, cells := 0, slots := 0, locals := 0 } : Room) s m ([.ref q_t, .int p1, .int p2] : List Value).toArray below meth c H locs 0 0 (MQ below (QcI D [(q_t, .inr (7, [.ref q_t_boxes, .ref q_t_next, .int t_done, .ref q_t_left, .ref q_t_pairs, .int t_many, .ref q_t_lengths, .ref q_t_riggings, .int t_told, .ref q_t_toldLength, .ref q_t_toldRigging, .ref q_t_toldRoom, .int t_ringN, .ref q_t_ring, .ref q_t_was, .ref q_t_saved, .ref q_t_isThere, .ref q_t_forms, .ref q_t_sizes, .ref q_t_items, .ref q_t_moved, .int t_finding])), (q_t_lengths, .inl (cI, 241, .inl t_lengths))] A r) ([.ref q_t, .int p1, .int p2] : List Value).toArray s 0 0 A) (F0 m 45 ls [])) → ∀ (n : Nat) (x3 : Int32) (x4 : Int32) (H : Heap) (locs : List Loc) (ls : Array Slot), Wd D A s.heap [(q_t, .inr (7, [.ref q_t_boxes, .ref q_t_next, .int t_done, .ref q_t_left, .ref q_t_pairs, .int t_many, .ref q_t_lengths, .ref q_t_riggings, .int t_told, .ref q_t_toldLength, .ref q_t_toldRigging, .ref q_t_toldRoom, .int t_ringN, .ref q_t_ring, .ref q_t_was, .ref q_t_saved, .ref q_t_isThere, .ref q_t_forms, .ref q_t_sizes, .ref q_t_items, .ref q_t_moved, .int t_finding])), (q_t_lengths, .inl (cI, 241, .inl t_lengths))] H locs → lv_has ls 5 [(0, .ref q_t), (1, .int x1), (2, .int x2), (3, .int x3), (4, .int x4)] → L_X7_room_5 N x1 t_many t_lengths K n x3 x4 = some r → W p l e ({ frames := 0, cells := 0, slots := 0, locals := 0 } : Room) s m ([.ref q_t, .int p1, .int p2] : List Value).toArray below meth c H locs 0 0 (MQ below (QcI D [(q_t, .inr (7, [.ref q_t_boxes, .ref q_t_next, .int t_done, .ref q_t_left, .ref q_t_pairs, .int t_many, .ref q_t_lengths, .ref q_t_riggings, .int t_told, .ref q_t_toldLength, .ref q_t_toldRigging, .ref q_t_toldRoom, .int t_ringN, .ref q_t_ring, .ref q_t_was, .ref q_t_saved, .ref q_t_isThere, .ref q_t_forms, .ref q_t_sizes, .ref q_t_items, .ref q_t_moved, .int t_finding])), (q_t_lengths, .inl (cI, 241, .inl t_lengths))] A r) ([.ref q_t, .int p1, .int p2] : List Value).toArray s 0 0 A) (F0 m 5 ls []) := by
    intro x1 x2 K hKx n
    induction n with
    | zero =>
      intro x3 x4 H locs ls hw hl hf
      rw [L_X7_room_5] at hf
      cases hf
    | succ n ih =>
      intro x3 x4 H locs ls hw hl hf
      rw [L_X7_room_5] at hf
      refine lv_iload hx hb dX7_room_5 (lv_at hl 4 rfl) ?_
      refine lv_aload_n hx hb dX7_room_7 rfl (lv_at hl 0 rfl) ?_
      refine g_get (ci := 7) (C := RX7) (T := TX7) (N := 22) S hinX7 hK hw 0 5 k87 dX7_room_8 rfl rfl (by decide) rfl ?_
      refine lv_icmp_ge (tgt := 45) hx hb dX7_room_11 (by decide) (fun c1 => ?_) (fun c1 => ?_)
      · have hf := (if_pos c1).symm.trans hf
        exact hKx x3 _ _ _ hw (lv_sub hl [2, 3] rfl) hf
      · have hf := (if_neg c1).symm.trans hf
        refine lv_iload_n hx hb dX7_room_14 rfl (lv_at hl 3 rfl) ?_
        refine lv_iload_n hx hb dX7_room_15 rfl (lv_at hl 1 rfl) ?_
        refine lv_aload_n hx hb dX7_room_16 rfl (lv_at hl 0 rfl) ?_
        refine g_get (ci := 7) (C := RX7) (T := TX7) (N := 22) S hinX7 hK hw 0 6 k23 dX7_room_17 rfl rfl (by decide) rfl ?_
        refine lv_iload hx hb dX7_room_20 (lv_at hl 4 rfl) ?_
        obtain ⟨b2, hf⟩ := ck_some hf
        refine g_iald S hK hw 1 0 b2 dX7_room_22 rfl rfl ?_
        refine lv_icmp_ge (tgt := 30) hx hb dX7_room_23 (by decide) (fun c3 => ?_) (fun c3 => ?_)
        · have hf := (if_pos c3).symm.trans hf
          refine lv_aload_n hx hb dX7_room_30 rfl (lv_at hl 0 rfl) ?_
          refine g_get (ci := 7) (C := RX7) (T := TX7) (N := 22) S hinX7 hK hw 0 6 k23 dX7_room_31 rfl rfl (by decide) rfl ?_
          refine lv_iload hx hb dX7_room_34 (lv_at hl 4 rfl) ?_
          obtain ⟨b4, hf⟩ := ck_some hf
          refine g_iald S hK hw 1 0 b4 dX7_room_36 rfl rfl ?_
          refine lv_iadd hx hb dX7_room_37 ?_
          refine lv_istore_n (lv' := [(3, .int (x3 + (t_lengths x4.toNatClampNeg))), (0, .ref q_t), (1, .int x1), (2, .int x2), (4, .int x4)]) hx hb dX7_room_38 rfl hl (by decide) rfl (fun ls hl => ?_)
          refine lv_iinc (v := (x4 + (1 : Int32))) (lv' := [(4, .int (x4 + (1 : Int32))), (3, .int (x3 + (t_lengths x4.toNatClampNeg))), (0, .ref q_t), (1, .int x1), (2, .int x2)]) hx hb dX7_room_39 hl (k := 4) rfl rfl (by decide) rfl (fun ls hl => ?_)
          refine lv_goto (tgt := 5) hx hb dX7_room_42 (by decide) ?_
          exact ih (x3 + (t_lengths x4.toNatClampNeg)) (x4 + (1 : Int32)) _ _ _ hw (lv_sub hl [2, 3, 4, 1, 0] rfl) hf
        · have hf := (if_neg c3).symm.trans hf
          refine lv_iload_n hx hb dX7_room_26 rfl (lv_at hl 1 rfl) ?_
          refine lv_goto (tgt := 37) hx hb dX7_room_27 (by decide) ?_
          refine lv_iadd hx hb dX7_room_37 ?_
          refine lv_istore_n (lv' := [(3, .int (x3 + x1)), (0, .ref q_t), (1, .int x1), (2, .int x2), (4, .int x4)]) hx hb dX7_room_38 rfl hl (by decide) rfl (fun ls hl => ?_)
          refine lv_iinc (v := (x4 + (1 : Int32))) (lv' := [(4, .int (x4 + (1 : Int32))), (3, .int (x3 + x1)), (0, .ref q_t), (1, .int x1), (2, .int x2)]) hx hb dX7_room_39 hl (k := 4) rfl rfl (by decide) rfl (fun ls hl => ?_)
          refine lv_goto (tgt := 5) hx hb dX7_room_42 (by decide) ?_
          exact ih (x3 + x1) (x4 + (1 : Int32)) _ _ _ hw (lv_sub hl [2, 3, 4, 1, 0] rfl) hf
  unfold f_X7_room at hf
  refine lv_iconst (v := (0 : Int32)) hx hb dX7_room_0 (by decide) ?_
  refine lv_istore_n (lv' := [(3, .int (0 : Int32)), (0, .ref q_t), (1, .int p1), (2, .int p2)]) hx hb dX7_room_1 rfl hl (by decide) rfl (fun ls hl => ?_)
  refine lv_iconst (v := (0 : Int32)) hx hb dX7_room_2 (by decide) ?_
  refine lv_istore (lv' := [(4, .int (0 : Int32)), (3, .int (0 : Int32)), (0, .ref q_t), (1, .int p1), (2, .int p2)]) hx hb dX7_room_3 hl (by decide) rfl (fun ls hl => ?_)
  refine Lp5 p1 p2 _ (fun y5 H locs ls hw hl hf => ?_) N (0 : Int32) (0 : Int32) _ _ _ hw (lv_sub hl [2, 3, 4, 1, 0] rfl) hf
  refine lv_iload_n hx hb dX7_room_45 rfl (lv_at hl 0 rfl) ?_
  refine lv_iconst (v := (2 : Int32)) hx hb dX7_room_46 (by decide) ?_
  refine lv_iload_n hx hb dX7_room_47 rfl (lv_at hl 1 rfl) ?_
  refine lv_imul hx hb dX7_room_48 ?_
  refine lv_isub hx hb dX7_room_49 ?_
  obtain rfl := Option.some.inj hf
  exact rt_i S hr hlk hw dX7_room_50

def L_X7_tight_5 (N : Nat) (x1 : Int32) (x2 : Int32) (t_many : Int32) (t_lengths : (Nat → Int32)) (t_riggings : (Nat → Int32)) (K : Int32 → Option (Int32)) : Nat → Int32 → Int32 → Option (Int32)
  | 0, _, _ => none
  | n + 1, x3, x4 => (if t_many ≤ x4 then (K x3) else (ck (inb x4 241) (ck (inb x4 241) (bd1 (f_X7_room N (t_lengths x4.toNatClampNeg) x1 t_many t_lengths) (fun r4 => (if (t_riggings x4.toNatClampNeg) = r4 then (if x3 = (-1 : Int32) then (if (1 : Int32) = (0 : Int32) then (L_X7_tight_5 N x1 x2 t_many t_lengths t_riggings K n x3 (x4 + (1 : Int32))) else (L_X7_tight_5 N x1 x2 t_many t_lengths t_riggings K n x4 (x4 + (1 : Int32)))) else (if x2 = (0 : Int32) then (ck (inb x4 241) (ck (inb x3 241) (if (t_lengths x3.toNatClampNeg) ≤ (t_lengths x4.toNatClampNeg) then (if (0 : Int32) = (0 : Int32) then (L_X7_tight_5 N x1 x2 t_many t_lengths t_riggings K n x3 (x4 + (1 : Int32))) else (L_X7_tight_5 N x1 x2 t_many t_lengths t_riggings K n x4 (x4 + (1 : Int32)))) else (if (1 : Int32) = (0 : Int32) then (L_X7_tight_5 N x1 x2 t_many t_lengths t_riggings K n x3 (x4 + (1 : Int32))) else (L_X7_tight_5 N x1 x2 t_many t_lengths t_riggings K n x4 (x4 + (1 : Int32))))))) else (ck (inb x4 241) (ck (inb x3 241) (if (t_lengths x4.toNatClampNeg) ≤ (t_lengths x3.toNatClampNeg) then (if (0 : Int32) = (0 : Int32) then (L_X7_tight_5 N x1 x2 t_many t_lengths t_riggings K n x3 (x4 + (1 : Int32))) else (L_X7_tight_5 N x1 x2 t_many t_lengths t_riggings K n x4 (x4 + (1 : Int32)))) else (if (1 : Int32) = (0 : Int32) then (L_X7_tight_5 N x1 x2 t_many t_lengths t_riggings K n x3 (x4 + (1 : Int32))) else (L_X7_tight_5 N x1 x2 t_many t_lengths t_riggings K n x4 (x4 + (1 : Int32))))))))) else (L_X7_tight_5 N x1 x2 t_many t_lengths t_riggings K n x3 (x4 + (1 : Int32)))))))))

def f_X7_tight (N : Nat) (p1 : Int32) (p2 : Int32) (t_many : Int32) (t_lengths : (Nat → Int32)) (t_riggings : (Nat → Int32)) : Option (Int32) :=
  (L_X7_tight_5 N p1 p2 t_many t_lengths t_riggings (fun y20 => (some y20)) N (-1 : Int32) (0 : Int32))

set_option maxHeartbeats 4000000 in
set_option maxRecDepth 100000 in
theorem c_X7_tight (l : Launch) (D : va_G) (cI cZ cJ cO : ClassId) (sz : Nat) (q_t q_t_boxes q_t_next q_t_left q_t_pairs q_t_lengths q_t_riggings q_t_toldLength q_t_toldRigging q_t_toldRoom q_t_ring q_t_was q_t_saved q_t_isThere q_t_forms q_t_sizes q_t_items q_t_moved : Nat) (N : Nat) (p1 : Int32) (p2 : Int32) (t_done : Int32) (t_many : Int32) (t_told : Int32) (t_ringN : Int32) (t_finding : Int32) (t_lengths : (Nat → Int32)) (t_riggings : (Nat → Int32)) (r : Int32) (hf : f_X7_tight N p1 p2 t_many t_lengths t_riggings = some r) : Met l yX7_tight wsX7_tight ({ frames := 1, cells := 0, slots := 0, locals := 24 }) (PreC D (TY cI cZ cJ cO) [.ref q_t, .int p1, .int p2] [(q_t, .inr (7, [.ref q_t_boxes, .ref q_t_next, .int t_done, .ref q_t_left, .ref q_t_pairs, .int t_many, .ref q_t_lengths, .ref q_t_riggings, .int t_told, .ref q_t_toldLength, .ref q_t_toldRigging, .ref q_t_toldRoom, .int t_ringN, .ref q_t_ring, .ref q_t_was, .ref q_t_saved, .ref q_t_isThere, .ref q_t_forms, .ref q_t_sizes, .ref q_t_items, .ref q_t_moved, .int t_finding])), (q_t_lengths, .inl (cI, 241, .inl t_lengths)), (q_t_riggings, .inl (cI, 241, .inl t_riggings))] sz) (QcI D [(q_t, .inr (7, [.ref q_t_boxes, .ref q_t_next, .int t_done, .ref q_t_left, .ref q_t_pairs, .int t_many, .ref q_t_lengths, .ref q_t_riggings, .int t_told, .ref q_t_toldLength, .ref q_t_toldRigging, .ref q_t_toldRoom, .int t_ringN, .ref q_t_ring, .ref q_t_was, .ref q_t_saved, .ref q_t_isThere, .ref q_t_forms, .ref q_t_sizes, .ref q_t_items, .ref q_t_moved, .int t_finding])), (q_t_lengths, .inl (cI, 241, .inl t_lengths)), (q_t_riggings, .inl (cI, 241, .inl t_riggings))] (va_A [(q_t, .inr (7, [.ref q_t_boxes, .ref q_t_next, .int t_done, .ref q_t_left, .ref q_t_pairs, .int t_many, .ref q_t_lengths, .ref q_t_riggings, .int t_told, .ref q_t_toldLength, .ref q_t_toldRigging, .ref q_t_toldRoom, .int t_ringN, .ref q_t_ring, .ref q_t_was, .ref q_t_saved, .ref q_t_isThere, .ref q_t_forms, .ref q_t_sizes, .ref q_t_items, .ref q_t_moved, .int t_finding])), (q_t_lengths, .inl (cI, 241, .inl t_lengths)), (q_t_riggings, .inl (cI, 241, .inl t_riggings))] sz) r) 0 0 (va_A [(q_t, .inr (7, [.ref q_t_boxes, .ref q_t_next, .int t_done, .ref q_t_left, .ref q_t_pairs, .int t_many, .ref q_t_lengths, .ref q_t_riggings, .int t_told, .ref q_t_toldLength, .ref q_t_toldRigging, .ref q_t_toldRoom, .int t_ringN, .ref q_t_ring, .ref q_t_was, .ref q_t_saved, .ref q_t_isThere, .ref q_t_forms, .ref q_t_sizes, .ref q_t_items, .ref q_t_moved, .int t_finding])), (q_t_lengths, .inl (cI, 241, .inl t_lengths)), (q_t_riggings, .inl (cI, 241, .inl t_riggings))] sz) := by
  refine ctr (cc := cX7_tight) (maxL := 6) (ret := (some .int)) (by decide) rfl (Nat.le_of_ble_eq_true rfl) ?_
  intro p e s m below meth c S hr hlk hnm hK hN hsz hA hw ls hl
  generalize va_A [(q_t, .inr (7, [.ref q_t_boxes, .ref q_t_next, .int t_done, .ref q_t_left, .ref q_t_pairs, .int t_many, .ref q_t_lengths, .ref q_t_riggings, .int t_told, .ref q_t_toldLength, .ref q_t_toldRigging, .ref q_t_toldRoom, .int t_ringN, .ref q_t_ring, .ref q_t_was, .ref q_t_saved, .ref q_t_isThere, .ref q_t_forms, .ref q_t_sizes, .ref q_t_items, .ref q_t_moved, .int t_finding])), (q_t_lengths, .inl (cI, 241, .inl t_lengths)), (q_t_riggings, .inl (cI, 241, .inl t_riggings))] sz = A at hA hw ⊢
  have S : CallFix p m c cX7_tight 6 s ([.ref q_t, .int p1, .int p2] : List Value).toArray wsX7_tight RX7 := S
  have hx := S.1
  have hb := S.2.1
  have hts := S.2.2.2.2
  have hl : lv_has ls 6 [(0, .ref q_t), (1, .int p1), (2, .int p2)] := hl
  have hinX7 : ∀ w ∈ u_ws RX7 TX7 22, w ∈ wsX7_tight := by decide +kernel
  have k23 : Cond.fieldLink RX7 23 "BallBoxesModel" "lengths" "[I" ∈ wsX7_tight := by decide +kernel
  have k26 : Cond.fieldLink RX7 26 "BallBoxesModel" "riggings" "[I" ∈ wsX7_tight := by decide +kernel
  have k87 : Cond.fieldLink RX7 87 "BallBoxesModel" "many" "I" ∈ wsX7_tight := by decide +kernel
  have Lp5 : ∀ (x1 : Int32) (x2 : Int32) (K : Int32 → Option (Int32)), (∀ (z3 : Int32) (H : Heap) (locs : List Loc) (ls : Array Slot), Wd D A s.heap [(q_t, .inr (7, [.ref q_t_boxes, .ref q_t_next, .int t_done, .ref q_t_left, .ref q_t_pairs, .int t_many, .ref q_t_lengths, .ref q_t_riggings, .int t_told, .ref q_t_toldLength, .ref q_t_toldRigging, .ref q_t_toldRoom, .int t_ringN, .ref q_t_ring, .ref q_t_was, .ref q_t_saved, .ref q_t_isThere, .ref q_t_forms, .ref q_t_sizes, .ref q_t_items, .ref q_t_moved, .int t_finding])), (q_t_lengths, .inl (cI, 241, .inl t_lengths)), (q_t_riggings, .inl (cI, 241, .inl t_riggings))] H locs → lv_has ls 6 [(3, .int z3)] → K z3 = some r → W p l e ({ frames := 1, cells := 0, slots := 0, locals := 24 } : Room) s m ([.ref q_t, .int p1, .int p2] : List Value).toArray below meth c H locs 0 0 (MQ below (QcI D [(q_t, .inr (7, [.ref q_t_boxes, .ref q_t_next, .int t_done, .ref q_t_left, .ref q_t_pairs, .int t_many, .ref q_t_lengths, .ref q_t_riggings, .int t_told, .ref q_t_toldLength, .ref q_t_toldRigging, .ref q_t_toldRoom, .int t_ringN, .ref q_t_ring, .ref q_t_was, .ref q_t_saved, .ref q_t_isThere, .ref q_t_forms, .ref q_t_sizes, .ref q_t_items, .ref q_t_moved, .int t_finding])), (q_t_lengths, .inl (cI, 241, .inl t_lengths)), (q_t_riggings, .inl (cI, 241, .inl t_riggings))] A r) ([.ref q_t, .int p1, .int p2] : List Value).toArray s 0 0 A) (F0 m 105 ls [])) → ∀ (n : Nat) (x3 : Int32) (x4 : Int32) (H : Heap) (locs : List Loc) (ls : Array Slot), Wd D A s.heap [(q_t, .inr (7, [.ref q_t_boxes, .ref q_t_next, .int t_done, .ref q_t_left, .ref q_t_pairs, .int t_many, .ref q_t_lengths, .ref q_t_riggings, .int t_told, .ref q_t_toldLength, .ref q_t_toldRigging, .ref q_t_toldRoom, .int t_ringN, .ref q_t_ring, .ref q_t_was, .ref q_t_saved, .ref q_t_isThere, .ref q_t_forms, .ref q_t_sizes, .ref q_t_items, .ref q_t_moved, .int t_finding])), (q_t_lengths, .inl (cI, 241, .inl t_lengths)), (q_t_riggings, .inl (cI, 241, .inl t_riggings))] H locs → lv_has ls 6 [(0, .ref q_t), (1, .int x1), (2, .int x2), (3, .int x3), (4, .int x4)] → L_X7_tight_5 N x1 x2 t_many t_lengths t_riggings K n x3 x4 = some r → W p l e ({ frames := 1, cells := 0, slots := 0, locals := 24 } : Room) s m ([.ref q_t, .int p1, .int p2] : List Value).toArray below meth c H locs 0 0 (MQ below (QcI D [(q_t, .inr (7, [.ref q_t_boxes, .ref q_t_next, .int t_done, .ref q_t_left, .ref q_t_pairs, .int t_many, .ref q_t_lengths, .ref q_t_riggings, .int t_told, .ref q_t_toldLength, .ref q_t_toldRigging, .ref q_t_toldRoom, .int t_ringN, .ref q_t_ring, .ref q_t_was, .ref q_t_saved, .ref q_t_isThere, .ref q_t_forms, .ref q_t_sizes, .ref q_t_items, .ref q_t_moved, .int t_finding])), (q_t_lengths, .inl (cI, 241, .inl t_lengths)), (q_t_riggings, .inl (cI, 241, .inl t_riggings))] A r) ([.ref q_t, .int p1, .int p2] : List Value).toArray s 0 0 A) (F0 m 5 ls []) := by
    intro x1 x2 K hKx n
    induction n with
    | zero =>
      intro x3 x4 H locs ls hw hl hf
      rw [L_X7_tight_5] at hf
      cases hf
    | succ n ih =>
      intro x3 x4 H locs ls hw hl hf
      rw [L_X7_tight_5] at hf
      refine lv_iload hx hb dX7_tight_5 (lv_at hl 4 rfl) ?_
      refine lv_aload_n hx hb dX7_tight_7 rfl (lv_at hl 0 rfl) ?_
      refine g_get (ci := 7) (C := RX7) (T := TX7) (N := 22) S hinX7 hK hw 0 5 k87 dX7_tight_8 rfl rfl (by decide) rfl ?_
      refine lv_icmp_ge (tgt := 105) hx hb dX7_tight_11 (by decide) (fun c1 => ?_) (fun c1 => ?_)
      · have hf := (if_pos c1).symm.trans hf
        exact hKx x3 _ _ _ hw (lv_sub hl [3] rfl) hf
      · have hf := (if_neg c1).symm.trans hf
        refine lv_aload_n hx hb dX7_tight_14 rfl (lv_at hl 0 rfl) ?_
        refine g_get (ci := 7) (C := RX7) (T := TX7) (N := 22) S hinX7 hK hw 0 7 k26 dX7_tight_15 rfl rfl (by decide) rfl ?_
        refine lv_iload hx hb dX7_tight_18 (lv_at hl 4 rfl) ?_
        obtain ⟨b2, hf⟩ := ck_some hf
        refine g_iald S hK hw 2 0 b2 dX7_tight_20 rfl rfl ?_
        refine lv_aload_n hx hb dX7_tight_21 rfl (lv_at hl 0 rfl) ?_
        refine lv_aload_n hx hb dX7_tight_22 rfl (lv_at hl 0 rfl) ?_
        refine g_get (ci := 7) (C := RX7) (T := TX7) (N := 22) S hinX7 hK hw 0 6 k23 dX7_tight_23 rfl rfl (by decide) rfl ?_
        refine lv_iload hx hb dX7_tight_26 (lv_at hl 4 rfl) ?_
        obtain ⟨b3, hf⟩ := ck_some hf
        refine g_iald S hK hw 1 0 b3 dX7_tight_28 rfl rfl ?_
        refine lv_iload_n hx hb dX7_tight_29 rfl (lv_at hl 1 rfl) ?_
        obtain ⟨r4, h5, hf⟩ := bd1_some hf
        refine cl_i (wr := [(q_t_riggings, .inl (cI, 241, .inl t_riggings))]) (ws' := [(q_t, .inr (7, [.ref q_t_boxes, .ref q_t_next, .int t_done, .ref q_t_left, .ref q_t_pairs, .int t_many, .ref q_t_lengths, .ref q_t_riggings, .int t_told, .ref q_t_toldLength, .ref q_t_toldRigging, .ref q_t_toldRoom, .int t_ringN, .ref q_t_ring, .ref q_t_was, .ref q_t_saved, .ref q_t_isThere, .ref q_t_forms, .ref q_t_sizes, .ref q_t_items, .ref q_t_moved, .int t_finding])), (q_t_lengths, .inl (cI, 241, .inl t_lengths)), (q_t_riggings, .inl (cI, 241, .inl t_riggings))]) hA hw [0, 1] [2] [1, 2, 0] rfl rfl rfl (by decide) rfl rfl (va_runV (As := [.int (t_lengths x4.toNatClampNeg), .int x1]) (rest := [.int (t_riggings x4.toNatClampNeg)]) S (c_X7_room l D cI cZ cJ cO _ q_t q_t_boxes q_t_next q_t_left q_t_pairs q_t_lengths q_t_riggings q_t_toldLength q_t_toldRigging q_t_toldRoom q_t_ring q_t_was q_t_saved q_t_isThere q_t_forms q_t_sizes q_t_items q_t_moved N (t_lengths x4.toNatClampNeg) x1 t_done t_many t_told t_ringN t_finding t_lengths r4 h5) (cwV 2 hts gX7_tight_X7_room rfl rfl rfl (by decide +kernel) ⟨Nat.le_of_ble_eq_true rfl, Nat.le_of_ble_eq_true rfl⟩) (pre_V hK hN hw [0, 1] rfl rfl (C := RX7) (T := TX7) (N := 22) (ci := 7) (q0 := 0) rfl rfl) rfl rfl hl.1 rfl (lv_room (Nat.le_of_ble_eq_true rfl)) dX7_tight_30 ⟨Nat.zero_le _, Nat.zero_le _⟩) (fun H locs hw => ?_)
        refine lv_icmp_ne (tgt := 99) hx hb dX7_tight_33 (by decide) (fun c6 => ?_) (fun c6 => ?_)
        · have hf := (if_neg c6).symm.trans hf
          refine lv_iinc (v := (x4 + (1 : Int32))) (lv' := [(4, .int (x4 + (1 : Int32))), (0, .ref q_t), (1, .int x1), (2, .int x2), (3, .int x3)]) hx hb dX7_tight_99 hl (k := 4) rfl rfl (by decide) rfl (fun ls hl => ?_)
          refine lv_goto (tgt := 5) hx hb dX7_tight_102 (by decide) ?_
          exact ih x3 (x4 + (1 : Int32)) _ _ _ hw (lv_sub hl [1, 2, 3, 4, 0] rfl) hf
        · have hf := (if_pos c6).symm.trans hf
          refine lv_iload_n hx hb dX7_tight_36 rfl (lv_at hl 3 rfl) ?_
          refine lv_iconst (v := (-1 : Int32)) hx hb dX7_tight_37 (by decide) ?_
          refine lv_icmp_eq (tgt := 80) hx hb dX7_tight_38 (by decide) (fun c7 => ?_) (fun c7 => ?_)
          · have hf := (if_pos c7).symm.trans hf
            refine lv_iconst (v := (1 : Int32)) hx hb dX7_tight_80 (by decide) ?_
            refine lv_goto (tgt := 85) hx hb dX7_tight_81 (by decide) ?_
            refine lv_istore (lv' := [(5, .int (1 : Int32)), (0, .ref q_t), (1, .int x1), (2, .int x2), (3, .int x3), (4, .int x4)]) hx hb dX7_tight_85 hl (by decide) rfl (fun ls hl => ?_)
            refine lv_iload hx hb dX7_tight_87 (lv_at hl 0 rfl) ?_
            refine lv_if_eq (tgt := 97) hx hb dX7_tight_89 (by decide) (fun c8 => ?_) (fun c8 => ?_)
            · have hf := (if_pos c8).symm.trans hf
              refine lv_iload_n hx hb dX7_tight_97 rfl (lv_at hl 4 rfl) ?_
              refine lv_istore_n (lv' := [(3, .int x3), (5, .int (1 : Int32)), (0, .ref q_t), (1, .int x1), (2, .int x2), (4, .int x4)]) hx hb dX7_tight_98 rfl hl (by decide) rfl (fun ls hl => ?_)
              refine lv_iinc (v := (x4 + (1 : Int32))) (lv' := [(4, .int (x4 + (1 : Int32))), (3, .int x3), (5, .int (1 : Int32)), (0, .ref q_t), (1, .int x1), (2, .int x2)]) hx hb dX7_tight_99 hl (k := 5) rfl rfl (by decide) rfl (fun ls hl => ?_)
              refine lv_goto (tgt := 5) hx hb dX7_tight_102 (by decide) ?_
              exact ih x3 (x4 + (1 : Int32)) _ _ _ hw (lv_sub hl [3, 4, 5, 1, 0] rfl) hf
            · have hf := (if_neg c8).symm.trans hf
              refine lv_iload hx hb dX7_tight_92 (lv_at hl 5 rfl) ?_
              refine lv_goto (tgt := 98) hx hb dX7_tight_94 (by decide) ?_
              refine lv_istore_n (lv' := [(3, .int x4), (5, .int (1 : Int32)), (0, .ref q_t), (1, .int x1), (2, .int x2), (4, .int x4)]) hx hb dX7_tight_98 rfl hl (by decide) rfl (fun ls hl => ?_)
              refine lv_iinc (v := (x4 + (1 : Int32))) (lv' := [(4, .int (x4 + (1 : Int32))), (3, .int x4), (5, .int (1 : Int32)), (0, .ref q_t), (1, .int x1), (2, .int x2)]) hx hb dX7_tight_99 hl (k := 5) rfl rfl (by decide) rfl (fun ls hl => ?_)
              refine lv_goto (tgt := 5) hx hb dX7_tight_102 (by decide) ?_
              exact ih x4 (x4 + (1 : Int32)) _ _ _ hw (lv_sub hl [3, 4, 5, 1, 0] rfl) hf
          · have hf := (if_neg c7).symm.trans hf
            refine lv_iload_n hx hb dX7_tight_41 rfl (lv_at hl 2 rfl) ?_
            refine lv_if_eq (tgt := 64) hx hb dX7_tight_42 (by decide) (fun c9 => ?_) (fun c9 => ?_)
            · have hf := (if_pos c9).symm.trans hf
              refine lv_aload_n hx hb dX7_tight_64 rfl (lv_at hl 0 rfl) ?_
              refine g_get (ci := 7) (C := RX7) (T := TX7) (N := 22) S hinX7 hK hw 0 6 k23 dX7_tight_65 rfl rfl (by decide) rfl ?_
              refine lv_iload hx hb dX7_tight_68 (lv_at hl 4 rfl) ?_
              obtain ⟨b10, hf⟩ := ck_some hf
              refine g_iald S hK hw 1 0 b10 dX7_tight_70 rfl rfl ?_
              refine lv_aload_n hx hb dX7_tight_71 rfl (lv_at hl 0 rfl) ?_
              refine g_get (ci := 7) (C := RX7) (T := TX7) (N := 22) S hinX7 hK hw 0 6 k23 dX7_tight_72 rfl rfl (by decide) rfl ?_
              refine lv_iload_n hx hb dX7_tight_75 rfl (lv_at hl 3 rfl) ?_
              obtain ⟨b11, hf⟩ := ck_some hf
              refine g_iald S hK hw 1 0 b11 dX7_tight_76 rfl rfl ?_
              refine lv_icmp_ge (tgt := 84) hx hb dX7_tight_77 (by decide) (fun c12 => ?_) (fun c12 => ?_)
              · have hf := (if_pos c12).symm.trans hf
                refine lv_iconst (v := (0 : Int32)) hx hb dX7_tight_84 (by decide) ?_
                refine lv_istore (lv' := [(5, .int (0 : Int32)), (0, .ref q_t), (1, .int x1), (2, .int x2), (3, .int x3), (4, .int x4)]) hx hb dX7_tight_85 hl (by decide) rfl (fun ls hl => ?_)
                refine lv_iload hx hb dX7_tight_87 (lv_at hl 0 rfl) ?_
                refine lv_if_eq (tgt := 97) hx hb dX7_tight_89 (by decide) (fun c13 => ?_) (fun c13 => ?_)
                · have hf := (if_pos c13).symm.trans hf
                  refine lv_iload_n hx hb dX7_tight_97 rfl (lv_at hl 4 rfl) ?_
                  refine lv_istore_n (lv' := [(3, .int x3), (5, .int (0 : Int32)), (0, .ref q_t), (1, .int x1), (2, .int x2), (4, .int x4)]) hx hb dX7_tight_98 rfl hl (by decide) rfl (fun ls hl => ?_)
                  refine lv_iinc (v := (x4 + (1 : Int32))) (lv' := [(4, .int (x4 + (1 : Int32))), (3, .int x3), (5, .int (0 : Int32)), (0, .ref q_t), (1, .int x1), (2, .int x2)]) hx hb dX7_tight_99 hl (k := 5) rfl rfl (by decide) rfl (fun ls hl => ?_)
                  refine lv_goto (tgt := 5) hx hb dX7_tight_102 (by decide) ?_
                  exact ih x3 (x4 + (1 : Int32)) _ _ _ hw (lv_sub hl [3, 4, 5, 1, 0] rfl) hf
                · have hf := (if_neg c13).symm.trans hf
                  refine lv_iload hx hb dX7_tight_92 (lv_at hl 5 rfl) ?_
                  refine lv_goto (tgt := 98) hx hb dX7_tight_94 (by decide) ?_
                  refine lv_istore_n (lv' := [(3, .int x4), (5, .int (0 : Int32)), (0, .ref q_t), (1, .int x1), (2, .int x2), (4, .int x4)]) hx hb dX7_tight_98 rfl hl (by decide) rfl (fun ls hl => ?_)
                  refine lv_iinc (v := (x4 + (1 : Int32))) (lv' := [(4, .int (x4 + (1 : Int32))), (3, .int x4), (5, .int (0 : Int32)), (0, .ref q_t), (1, .int x1), (2, .int x2)]) hx hb dX7_tight_99 hl (k := 5) rfl rfl (by decide) rfl (fun ls hl => ?_)
                  refine lv_goto (tgt := 5) hx hb dX7_tight_102 (by decide) ?_
                  exact ih x4 (x4 + (1 : Int32)) _ _ _ hw (lv_sub hl [3, 4, 5, 1, 0] rfl) hf
              · have hf := (if_neg c12).symm.trans hf
                refine lv_iconst (v := (1 : Int32)) hx hb dX7_tight_80 (by decide) ?_
                refine lv_goto (tgt := 85) hx hb dX7_tight_81 (by decide) ?_
                refine lv_istore (lv' := [(5, .int (1 : Int32)), (0, .ref q_t), (1, .int x1), (2, .int x2), (3, .int x3), (4, .int x4)]) hx hb dX7_tight_85 hl (by decide) rfl (fun ls hl => ?_)
                refine lv_iload hx hb dX7_tight_87 (lv_at hl 0 rfl) ?_
                refine lv_if_eq (tgt := 97) hx hb dX7_tight_89 (by decide) (fun c14 => ?_) (fun c14 => ?_)
                · have hf := (if_pos c14).symm.trans hf
                  refine lv_iload_n hx hb dX7_tight_97 rfl (lv_at hl 4 rfl) ?_
                  refine lv_istore_n (lv' := [(3, .int x3), (5, .int (1 : Int32)), (0, .ref q_t), (1, .int x1), (2, .int x2), (4, .int x4)]) hx hb dX7_tight_98 rfl hl (by decide) rfl (fun ls hl => ?_)
                  refine lv_iinc (v := (x4 + (1 : Int32))) (lv' := [(4, .int (x4 + (1 : Int32))), (3, .int x3), (5, .int (1 : Int32)), (0, .ref q_t), (1, .int x1), (2, .int x2)]) hx hb dX7_tight_99 hl (k := 5) rfl rfl (by decide) rfl (fun ls hl => ?_)
                  refine lv_goto (tgt := 5) hx hb dX7_tight_102 (by decide) ?_
                  exact ih x3 (x4 + (1 : Int32)) _ _ _ hw (lv_sub hl [3, 4, 5, 1, 0] rfl) hf
                · have hf := (if_neg c14).symm.trans hf
                  refine lv_iload hx hb dX7_tight_92 (lv_at hl 5 rfl) ?_
                  refine lv_goto (tgt := 98) hx hb dX7_tight_94 (by decide) ?_
                  refine lv_istore_n (lv' := [(3, .int x4), (5, .int (1 : Int32)), (0, .ref q_t), (1, .int x1), (2, .int x2), (4, .int x4)]) hx hb dX7_tight_98 rfl hl (by decide) rfl (fun ls hl => ?_)
                  refine lv_iinc (v := (x4 + (1 : Int32))) (lv' := [(4, .int (x4 + (1 : Int32))), (3, .int x4), (5, .int (1 : Int32)), (0, .ref q_t), (1, .int x1), (2, .int x2)]) hx hb dX7_tight_99 hl (k := 5) rfl rfl (by decide) rfl (fun ls hl => ?_)
                  refine lv_goto (tgt := 5) hx hb dX7_tight_102 (by decide) ?_
                  exact ih x4 (x4 + (1 : Int32)) _ _ _ hw (lv_sub hl [3, 4, 5, 1, 0] rfl) hf
            · have hf := (if_neg c9).symm.trans hf
              refine lv_aload_n hx hb dX7_tight_45 rfl (lv_at hl 0 rfl) ?_
              refine g_get (ci := 7) (C := RX7) (T := TX7) (N := 22) S hinX7 hK hw 0 6 k23 dX7_tight_46 rfl rfl (by decide) rfl ?_
              refine lv_iload hx hb dX7_tight_49 (lv_at hl 4 rfl) ?_
              obtain ⟨b15, hf⟩ := ck_some hf
              refine g_iald S hK hw 1 0 b15 dX7_tight_51 rfl rfl ?_
              refine lv_aload_n hx hb dX7_tight_52 rfl (lv_at hl 0 rfl) ?_
              refine g_get (ci := 7) (C := RX7) (T := TX7) (N := 22) S hinX7 hK hw 0 6 k23 dX7_tight_53 rfl rfl (by decide) rfl ?_
              refine lv_iload_n hx hb dX7_tight_56 rfl (lv_at hl 3 rfl) ?_
              obtain ⟨b16, hf⟩ := ck_some hf
              refine g_iald S hK hw 1 0 b16 dX7_tight_57 rfl rfl ?_
              refine lv_icmp_le (tgt := 84) hx hb dX7_tight_58 (by decide) (fun c17 => ?_) (fun c17 => ?_)
              · have hf := (if_pos c17).symm.trans hf
                refine lv_iconst (v := (0 : Int32)) hx hb dX7_tight_84 (by decide) ?_
                refine lv_istore (lv' := [(5, .int (0 : Int32)), (0, .ref q_t), (1, .int x1), (2, .int x2), (3, .int x3), (4, .int x4)]) hx hb dX7_tight_85 hl (by decide) rfl (fun ls hl => ?_)
                refine lv_iload hx hb dX7_tight_87 (lv_at hl 0 rfl) ?_
                refine lv_if_eq (tgt := 97) hx hb dX7_tight_89 (by decide) (fun c18 => ?_) (fun c18 => ?_)
                · have hf := (if_pos c18).symm.trans hf
                  refine lv_iload_n hx hb dX7_tight_97 rfl (lv_at hl 4 rfl) ?_
                  refine lv_istore_n (lv' := [(3, .int x3), (5, .int (0 : Int32)), (0, .ref q_t), (1, .int x1), (2, .int x2), (4, .int x4)]) hx hb dX7_tight_98 rfl hl (by decide) rfl (fun ls hl => ?_)
                  refine lv_iinc (v := (x4 + (1 : Int32))) (lv' := [(4, .int (x4 + (1 : Int32))), (3, .int x3), (5, .int (0 : Int32)), (0, .ref q_t), (1, .int x1), (2, .int x2)]) hx hb dX7_tight_99 hl (k := 5) rfl rfl (by decide) rfl (fun ls hl => ?_)
                  refine lv_goto (tgt := 5) hx hb dX7_tight_102 (by decide) ?_
                  exact ih x3 (x4 + (1 : Int32)) _ _ _ hw (lv_sub hl [3, 4, 5, 1, 0] rfl) hf
                · have hf := (if_neg c18).symm.trans hf
                  refine lv_iload hx hb dX7_tight_92 (lv_at hl 5 rfl) ?_
                  refine lv_goto (tgt := 98) hx hb dX7_tight_94 (by decide) ?_
                  refine lv_istore_n (lv' := [(3, .int x4), (5, .int (0 : Int32)), (0, .ref q_t), (1, .int x1), (2, .int x2), (4, .int x4)]) hx hb dX7_tight_98 rfl hl (by decide) rfl (fun ls hl => ?_)
                  refine lv_iinc (v := (x4 + (1 : Int32))) (lv' := [(4, .int (x4 + (1 : Int32))), (3, .int x4), (5, .int (0 : Int32)), (0, .ref q_t), (1, .int x1), (2, .int x2)]) hx hb dX7_tight_99 hl (k := 5) rfl rfl (by decide) rfl (fun ls hl => ?_)
                  refine lv_goto (tgt := 5) hx hb dX7_tight_102 (by decide) ?_
                  exact ih x4 (x4 + (1 : Int32)) _ _ _ hw (lv_sub hl [3, 4, 5, 1, 0] rfl) hf
              · have hf := (if_neg c17).symm.trans hf
                refine lv_goto (tgt := 80) hx hb dX7_tight_61 (by decide) ?_
                refine lv_iconst (v := (1 : Int32)) hx hb dX7_tight_80 (by decide) ?_
                refine lv_goto (tgt := 85) hx hb dX7_tight_81 (by decide) ?_
                refine lv_istore (lv' := [(5, .int (1 : Int32)), (0, .ref q_t), (1, .int x1), (2, .int x2), (3, .int x3), (4, .int x4)]) hx hb dX7_tight_85 hl (by decide) rfl (fun ls hl => ?_)
                refine lv_iload hx hb dX7_tight_87 (lv_at hl 0 rfl) ?_
                refine lv_if_eq (tgt := 97) hx hb dX7_tight_89 (by decide) (fun c19 => ?_) (fun c19 => ?_)
                · have hf := (if_pos c19).symm.trans hf
                  refine lv_iload_n hx hb dX7_tight_97 rfl (lv_at hl 4 rfl) ?_
                  refine lv_istore_n (lv' := [(3, .int x3), (5, .int (1 : Int32)), (0, .ref q_t), (1, .int x1), (2, .int x2), (4, .int x4)]) hx hb dX7_tight_98 rfl hl (by decide) rfl (fun ls hl => ?_)
                  refine lv_iinc (v := (x4 + (1 : Int32))) (lv' := [(4, .int (x4 + (1 : Int32))), (3, .int x3), (5, .int (1 : Int32)), (0, .ref q_t), (1, .int x1), (2, .int x2)]) hx hb dX7_tight_99 hl (k := 5) rfl rfl (by decide) rfl (fun ls hl => ?_)
                  refine lv_goto (tgt := 5) hx hb dX7_tight_102 (by decide) ?_
                  exact ih x3 (x4 + (1 : Int32)) _ _ _ hw (lv_sub hl [3, 4, 5, 1, 0] rfl) hf
                · have hf := (if_neg c19).symm.trans hf
                  refine lv_iload hx hb dX7_tight_92 (lv_at hl 5 rfl) ?_
                  refine lv_goto (tgt := 98) hx hb dX7_tight_94 (by decide) ?_
                  refine lv_istore_n (lv' := [(3, .int x4), (5, .int (1 : Int32)), (0, .ref q_t), (1, .int x1), (2, .int x2), (4, .int x4)]) hx hb dX7_tight_98 rfl hl (by decide) rfl (fun ls hl => ?_)
                  refine lv_iinc (v := (x4 + (1 : Int32))) (lv' := [(4, .int (x4 + (1 : Int32))), (3, .int x4), (5, .int (1 : Int32)), (0, .ref q_t), (1, .int x1), (2, .int x2)]) hx hb dX7_tight_99 hl (k := 5) rfl rfl (by decide) rfl (fun ls hl => ?_)
                  refine lv_goto (tgt := 5) hx hb dX7_tight_102 (by decide) ?_
                  exact ih x4 (x4 + (1 : Int32)) _ _ _ hw (lv_sub hl [3, 4, 5, 1, 0] rfl) hf
  unfold f_X7_tight at hf
  refine lv_iconst (v := (-1 : Int32)) hx hb dX7_tight_0 (by decide) ?_
  refine lv_istore_n (lv' := [(3, .int (-1 : Int32)), (0, .ref q_t), (1, .int p1), (2, .int p2)]) hx hb dX7_tight_1 rfl hl (by decide) rfl (fun ls hl => ?_)
  refine lv_iconst (v := (0 : Int32)) hx hb dX7_tight_2 (by decide) ?_
  refine lv_istore (lv' := [(4, .int (0 : Int32)), (3, .int (-1 : Int32)), (0, .ref q_t), (1, .int p1), (2, .int p2)]) hx hb dX7_tight_3 hl (by decide) rfl (fun ls hl => ?_)
  refine Lp5 p1 p2 _ (fun y20 H locs ls hw hl hf => ?_) N (-1 : Int32) (0 : Int32) _ _ _ hw (lv_sub hl [2, 3, 4, 1, 0] rfl) hf
  refine lv_iload_n hx hb dX7_tight_105 rfl (lv_at hl 0 rfl) ?_
  obtain rfl := Option.some.inj hf
  exact rt_i S hr hlk hw dX7_tight_106

def L_X7_reads_7 (N : Nat) (x1 : Int32) (t_boxes : (Nat → Int32)) (K : Int32 → (Nat → Int32) → (Nat → Int32) → Option (Int32 × (Nat → Int32) × (Nat → Int32))) : Nat → Int32 → Int32 → (Nat → Int32) → (Nat → Int32) → Option (Int32 × (Nat → Int32) × (Nat → Int32))
  | 0, _, _, _, _ => none
  | n + 1, x2, w_t_many, w_t_lengths, w_t_riggings => (if x1 ≤ x2 then (K w_t_many w_t_lengths w_t_riggings) else (ck (inb x2 240) (if (t_boxes x2.toNatClampNeg) = (0 : Int32) then (L_X7_reads_7 N x1 t_boxes K n (x2 + (1 : Int32)) w_t_many w_t_lengths w_t_riggings) else (bd1 (f_X7_tight N x2 (1 : Int32) w_t_many w_t_lengths w_t_riggings) (fun r4 => (if r4 = (-1 : Int32) then (ck (inb w_t_many 241) (ck (inb w_t_many 241) (ck (inb w_t_many 241) (ck (inb w_t_many 241) (bd1 (f_X7_room N ((upd (upd w_t_lengths w_t_many.toNatClampNeg (0 : Int32)) w_t_many.toNatClampNeg (((upd w_t_lengths w_t_many.toNatClampNeg (0 : Int32)) w_t_many.toNatClampNeg) + (1 : Int32))) w_t_many.toNatClampNeg) (x2 + (1 : Int32)) (w_t_many + (1 : Int32)) (upd (upd w_t_lengths w_t_many.toNatClampNeg (0 : Int32)) w_t_many.toNatClampNeg (((upd w_t_lengths w_t_many.toNatClampNeg (0 : Int32)) w_t_many.toNatClampNeg) + (1 : Int32)))) (fun r17 => (ck (inb w_t_many 241) (L_X7_reads_7 N x1 t_boxes K n (x2 + (1 : Int32)) (w_t_many + (1 : Int32)) (upd (upd w_t_lengths w_t_many.toNatClampNeg (0 : Int32)) w_t_many.toNatClampNeg (((upd w_t_lengths w_t_many.toNatClampNeg (0 : Int32)) w_t_many.toNatClampNeg) + (1 : Int32))) (upd w_t_riggings w_t_many.toNatClampNeg r17))))))))) else (ck (inb r4 241) (ck (inb r4 241) (ck (inb r4 241) (bd1 (f_X7_room N ((upd w_t_lengths r4.toNatClampNeg ((w_t_lengths r4.toNatClampNeg) + (1 : Int32))) r4.toNatClampNeg) (x2 + (1 : Int32)) w_t_many (upd w_t_lengths r4.toNatClampNeg ((w_t_lengths r4.toNatClampNeg) + (1 : Int32)))) (fun r10 => (ck (inb r4 241) (L_X7_reads_7 N x1 t_boxes K n (x2 + (1 : Int32)) w_t_many (upd w_t_lengths r4.toNatClampNeg ((w_t_lengths r4.toNatClampNeg) + (1 : Int32))) (upd w_t_riggings r4.toNatClampNeg r10))))))))))))))

def f_X7_reads (N : Nat) (p1 : Int32) (t_many : Int32) (t_boxes : (Nat → Int32)) (t_lengths : (Nat → Int32)) (t_riggings : (Nat → Int32)) : Option (Int32 × (Nat → Int32) × (Nat → Int32)) :=
  (L_X7_reads_7 N p1 t_boxes (fun u20 u21 u22 => (some (u20, u21, u22))) N (0 : Int32) (0 : Int32) t_lengths t_riggings)

set_option maxHeartbeats 4000000 in
set_option maxRecDepth 100000 in
theorem c_X7_reads (l : Launch) (D : va_G) (cI cZ cJ cO : ClassId) (sz : Nat) (q_t q_t_boxes q_t_next q_t_left q_t_pairs q_t_lengths q_t_riggings q_t_toldLength q_t_toldRigging q_t_toldRoom q_t_ring q_t_was q_t_saved q_t_isThere q_t_forms q_t_sizes q_t_items q_t_moved : Nat) (N : Nat) (p1 : Int32) (t_done : Int32) (t_many : Int32) (t_told : Int32) (t_ringN : Int32) (t_finding : Int32) (t_boxes : (Nat → Int32)) (t_lengths : (Nat → Int32)) (t_riggings : (Nat → Int32)) (o_t_many : Int32) (o_t_lengths : (Nat → Int32)) (o_t_riggings : (Nat → Int32)) (hf : f_X7_reads N p1 t_many t_boxes t_lengths t_riggings = some (o_t_many, o_t_lengths, o_t_riggings)) : Met l yX7_reads wsX7_reads ({ frames := 2, cells := 0, slots := 0, locals := 49 }) (PreC D (TY cI cZ cJ cO) [.ref q_t, .int p1] [(q_t, .inr (7, [.ref q_t_boxes, .ref q_t_next, .int t_done, .ref q_t_left, .ref q_t_pairs, .int t_many, .ref q_t_lengths, .ref q_t_riggings, .int t_told, .ref q_t_toldLength, .ref q_t_toldRigging, .ref q_t_toldRoom, .int t_ringN, .ref q_t_ring, .ref q_t_was, .ref q_t_saved, .ref q_t_isThere, .ref q_t_forms, .ref q_t_sizes, .ref q_t_items, .ref q_t_moved, .int t_finding])), (q_t_boxes, .inl (cZ, 240, .inl t_boxes)), (q_t_lengths, .inl (cI, 241, .inl t_lengths)), (q_t_riggings, .inl (cI, 241, .inl t_riggings))] sz) (QcV D [(q_t, .inr (7, [.ref q_t_boxes, .ref q_t_next, .int t_done, .ref q_t_left, .ref q_t_pairs, .int o_t_many, .ref q_t_lengths, .ref q_t_riggings, .int t_told, .ref q_t_toldLength, .ref q_t_toldRigging, .ref q_t_toldRoom, .int t_ringN, .ref q_t_ring, .ref q_t_was, .ref q_t_saved, .ref q_t_isThere, .ref q_t_forms, .ref q_t_sizes, .ref q_t_items, .ref q_t_moved, .int t_finding])), (q_t_boxes, .inl (cZ, 240, .inl t_boxes)), (q_t_lengths, .inl (cI, 241, .inl o_t_lengths)), (q_t_riggings, .inl (cI, 241, .inl o_t_riggings))] (va_A [(q_t, .inr (7, [.ref q_t_boxes, .ref q_t_next, .int t_done, .ref q_t_left, .ref q_t_pairs, .int t_many, .ref q_t_lengths, .ref q_t_riggings, .int t_told, .ref q_t_toldLength, .ref q_t_toldRigging, .ref q_t_toldRoom, .int t_ringN, .ref q_t_ring, .ref q_t_was, .ref q_t_saved, .ref q_t_isThere, .ref q_t_forms, .ref q_t_sizes, .ref q_t_items, .ref q_t_moved, .int t_finding])), (q_t_boxes, .inl (cZ, 240, .inl t_boxes)), (q_t_lengths, .inl (cI, 241, .inl t_lengths)), (q_t_riggings, .inl (cI, 241, .inl t_riggings))] sz)) 0 0 (va_A [(q_t, .inr (7, [.ref q_t_boxes, .ref q_t_next, .int t_done, .ref q_t_left, .ref q_t_pairs, .int t_many, .ref q_t_lengths, .ref q_t_riggings, .int t_told, .ref q_t_toldLength, .ref q_t_toldRigging, .ref q_t_toldRoom, .int t_ringN, .ref q_t_ring, .ref q_t_was, .ref q_t_saved, .ref q_t_isThere, .ref q_t_forms, .ref q_t_sizes, .ref q_t_items, .ref q_t_moved, .int t_finding])), (q_t_boxes, .inl (cZ, 240, .inl t_boxes)), (q_t_lengths, .inl (cI, 241, .inl t_lengths)), (q_t_riggings, .inl (cI, 241, .inl t_riggings))] sz) := by
  refine ctr (cc := cX7_reads) (maxL := 4) (ret := none) (by decide) rfl (Nat.le_of_ble_eq_true rfl) ?_
  intro p e s m below meth c S hr hlk hnm hK hN hsz hA hw ls hl
  generalize va_A [(q_t, .inr (7, [.ref q_t_boxes, .ref q_t_next, .int t_done, .ref q_t_left, .ref q_t_pairs, .int t_many, .ref q_t_lengths, .ref q_t_riggings, .int t_told, .ref q_t_toldLength, .ref q_t_toldRigging, .ref q_t_toldRoom, .int t_ringN, .ref q_t_ring, .ref q_t_was, .ref q_t_saved, .ref q_t_isThere, .ref q_t_forms, .ref q_t_sizes, .ref q_t_items, .ref q_t_moved, .int t_finding])), (q_t_boxes, .inl (cZ, 240, .inl t_boxes)), (q_t_lengths, .inl (cI, 241, .inl t_lengths)), (q_t_riggings, .inl (cI, 241, .inl t_riggings))] sz = A at hA hw ⊢
  have S : CallFix p m c cX7_reads 4 s ([.ref q_t, .int p1] : List Value).toArray wsX7_reads RX7 := S
  have hx := S.1
  have hb := S.2.1
  have hts := S.2.2.2.2
  have hl : lv_has ls 4 [(0, .ref q_t), (1, .int p1)] := hl
  have hinX7 : ∀ w ∈ u_ws RX7 TX7 22, w ∈ wsX7_reads := by decide +kernel
  have k7 : Cond.fieldLink RX7 7 "BallBoxesModel" "boxes" "[Z" ∈ wsX7_reads := by decide +kernel
  have k23 : Cond.fieldLink RX7 23 "BallBoxesModel" "lengths" "[I" ∈ wsX7_reads := by decide +kernel
  have k26 : Cond.fieldLink RX7 26 "BallBoxesModel" "riggings" "[I" ∈ wsX7_reads := by decide +kernel
  have k87 : Cond.fieldLink RX7 87 "BallBoxesModel" "many" "I" ∈ wsX7_reads := by decide +kernel
  have Lp7 : ∀ (x1 : Int32) (K : Int32 → (Nat → Int32) → (Nat → Int32) → Option (Int32 × (Nat → Int32) × (Nat → Int32))), (∀ (z_t_many : Int32) (z_t_lengths : (Nat → Int32)) (z_t_riggings : (Nat → Int32)) (H : Heap) (locs : List Loc) (ls : Array Slot), Wd D A s.heap [(q_t, .inr (7, [.ref q_t_boxes, .ref q_t_next, .int t_done, .ref q_t_left, .ref q_t_pairs, .int z_t_many, .ref q_t_lengths, .ref q_t_riggings, .int t_told, .ref q_t_toldLength, .ref q_t_toldRigging, .ref q_t_toldRoom, .int t_ringN, .ref q_t_ring, .ref q_t_was, .ref q_t_saved, .ref q_t_isThere, .ref q_t_forms, .ref q_t_sizes, .ref q_t_items, .ref q_t_moved, .int t_finding])), (q_t_boxes, .inl (cZ, 240, .inl t_boxes)), (q_t_lengths, .inl (cI, 241, .inl z_t_lengths)), (q_t_riggings, .inl (cI, 241, .inl z_t_riggings))] H locs → lv_has ls 4 [] → K z_t_many z_t_lengths z_t_riggings = some (o_t_many, o_t_lengths, o_t_riggings) → W p l e ({ frames := 2, cells := 0, slots := 0, locals := 49 } : Room) s m ([.ref q_t, .int p1] : List Value).toArray below meth c H locs 0 0 (MQ below (QcV D [(q_t, .inr (7, [.ref q_t_boxes, .ref q_t_next, .int t_done, .ref q_t_left, .ref q_t_pairs, .int o_t_many, .ref q_t_lengths, .ref q_t_riggings, .int t_told, .ref q_t_toldLength, .ref q_t_toldRigging, .ref q_t_toldRoom, .int t_ringN, .ref q_t_ring, .ref q_t_was, .ref q_t_saved, .ref q_t_isThere, .ref q_t_forms, .ref q_t_sizes, .ref q_t_items, .ref q_t_moved, .int t_finding])), (q_t_boxes, .inl (cZ, 240, .inl t_boxes)), (q_t_lengths, .inl (cI, 241, .inl o_t_lengths)), (q_t_riggings, .inl (cI, 241, .inl o_t_riggings))] A) ([.ref q_t, .int p1] : List Value).toArray s 0 0 A) (F0 m 90 ls [])) → ∀ (n : Nat) (x2 : Int32) (w_t_many : Int32) (w_t_lengths : (Nat → Int32)) (w_t_riggings : (Nat → Int32)) (H : Heap) (locs : List Loc) (ls : Array Slot), Wd D A s.heap [(q_t, .inr (7, [.ref q_t_boxes, .ref q_t_next, .int t_done, .ref q_t_left, .ref q_t_pairs, .int w_t_many, .ref q_t_lengths, .ref q_t_riggings, .int t_told, .ref q_t_toldLength, .ref q_t_toldRigging, .ref q_t_toldRoom, .int t_ringN, .ref q_t_ring, .ref q_t_was, .ref q_t_saved, .ref q_t_isThere, .ref q_t_forms, .ref q_t_sizes, .ref q_t_items, .ref q_t_moved, .int t_finding])), (q_t_boxes, .inl (cZ, 240, .inl t_boxes)), (q_t_lengths, .inl (cI, 241, .inl w_t_lengths)), (q_t_riggings, .inl (cI, 241, .inl w_t_riggings))] H locs → lv_has ls 4 [(0, .ref q_t), (1, .int x1), (2, .int x2)] → L_X7_reads_7 N x1 t_boxes K n x2 w_t_many w_t_lengths w_t_riggings = some (o_t_many, o_t_lengths, o_t_riggings) → W p l e ({ frames := 2, cells := 0, slots := 0, locals := 49 } : Room) s m ([.ref q_t, .int p1] : List Value).toArray below meth c H locs 0 0 (MQ below (QcV D [(q_t, .inr (7, [.ref q_t_boxes, .ref q_t_next, .int t_done, .ref q_t_left, .ref q_t_pairs, .int o_t_many, .ref q_t_lengths, .ref q_t_riggings, .int t_told, .ref q_t_toldLength, .ref q_t_toldRigging, .ref q_t_toldRoom, .int t_ringN, .ref q_t_ring, .ref q_t_was, .ref q_t_saved, .ref q_t_isThere, .ref q_t_forms, .ref q_t_sizes, .ref q_t_items, .ref q_t_moved, .int t_finding])), (q_t_boxes, .inl (cZ, 240, .inl t_boxes)), (q_t_lengths, .inl (cI, 241, .inl o_t_lengths)), (q_t_riggings, .inl (cI, 241, .inl o_t_riggings))] A) ([.ref q_t, .int p1] : List Value).toArray s 0 0 A) (F0 m 7 ls []) := by
    intro x1 K hKx n
    induction n with
    | zero =>
      intro x2 w_t_many w_t_lengths w_t_riggings H locs ls hw hl hf
      rw [L_X7_reads_7] at hf
      cases hf
    | succ n ih =>
      intro x2 w_t_many w_t_lengths w_t_riggings H locs ls hw hl hf
      rw [L_X7_reads_7] at hf
      refine lv_iload_n hx hb dX7_reads_7 rfl (lv_at hl 2 rfl) ?_
      refine lv_iload_n hx hb dX7_reads_8 rfl (lv_at hl 1 rfl) ?_
      refine lv_icmp_ge (tgt := 90) hx hb dX7_reads_9 (by decide) (fun c1 => ?_) (fun c1 => ?_)
      · have hf := (if_pos c1).symm.trans hf
        exact hKx w_t_many w_t_lengths w_t_riggings _ _ _ hw (lv_sub hl [] rfl) hf
      · have hf := (if_neg c1).symm.trans hf
        refine lv_aload_n hx hb dX7_reads_12 rfl (lv_at hl 0 rfl) ?_
        refine g_get (ci := 7) (C := RX7) (T := TX7) (N := 22) S hinX7 hK hw 0 0 k7 dX7_reads_13 rfl rfl (by decide) rfl ?_
        refine lv_iload_n hx hb dX7_reads_16 rfl (lv_at hl 2 rfl) ?_
        obtain ⟨b2, hf⟩ := ck_some hf
        refine g_zald S hK hw 1 1 b2 dX7_reads_17 rfl rfl ?_
        refine lv_if_eq (tgt := 84) hx hb dX7_reads_18 (by decide) (fun c3 => ?_) (fun c3 => ?_)
        · have hf := (if_pos c3).symm.trans hf
          refine lv_iinc (v := (x2 + (1 : Int32))) (lv' := [(2, .int (x2 + (1 : Int32))), (0, .ref q_t), (1, .int x1)]) hx hb dX7_reads_84 hl (k := 2) rfl rfl (by decide) rfl (fun ls hl => ?_)
          refine lv_goto (tgt := 7) hx hb dX7_reads_87 (by decide) ?_
          exact ih (x2 + (1 : Int32)) w_t_many w_t_lengths w_t_riggings _ _ _ hw (lv_sub hl [1, 2, 0] rfl) hf
        · have hf := (if_neg c3).symm.trans hf
          refine lv_aload_n hx hb dX7_reads_21 rfl (lv_at hl 0 rfl) ?_
          refine lv_iload_n hx hb dX7_reads_22 rfl (lv_at hl 2 rfl) ?_
          refine lv_iconst (v := (1 : Int32)) hx hb dX7_reads_23 (by decide) ?_
          obtain ⟨r4, h5, hf⟩ := bd1_some hf
          refine cl_i (wr := [(q_t_boxes, .inl (cZ, 240, .inl t_boxes))]) (ws' := [(q_t, .inr (7, [.ref q_t_boxes, .ref q_t_next, .int t_done, .ref q_t_left, .ref q_t_pairs, .int w_t_many, .ref q_t_lengths, .ref q_t_riggings, .int t_told, .ref q_t_toldLength, .ref q_t_toldRigging, .ref q_t_toldRoom, .int t_ringN, .ref q_t_ring, .ref q_t_was, .ref q_t_saved, .ref q_t_isThere, .ref q_t_forms, .ref q_t_sizes, .ref q_t_items, .ref q_t_moved, .int t_finding])), (q_t_boxes, .inl (cZ, 240, .inl t_boxes)), (q_t_lengths, .inl (cI, 241, .inl w_t_lengths)), (q_t_riggings, .inl (cI, 241, .inl w_t_riggings))]) hA hw [0, 2, 3] [1] [1, 0, 2, 3] rfl rfl rfl (by decide) rfl rfl (va_runV (As := [.int x2, .int (1 : Int32)]) (rest := []) S (c_X7_tight l D cI cZ cJ cO _ q_t q_t_boxes q_t_next q_t_left q_t_pairs q_t_lengths q_t_riggings q_t_toldLength q_t_toldRigging q_t_toldRoom q_t_ring q_t_was q_t_saved q_t_isThere q_t_forms q_t_sizes q_t_items q_t_moved N x2 (1 : Int32) t_done w_t_many t_told t_ringN t_finding w_t_lengths w_t_riggings r4 h5) (cwV 2 hts gX7_reads_X7_tight rfl rfl rfl (by decide +kernel) ⟨Nat.le_of_ble_eq_true rfl, Nat.le_of_ble_eq_true rfl⟩) (pre_V hK hN hw [0, 2, 3] rfl rfl (C := RX7) (T := TX7) (N := 22) (ci := 7) (q0 := 0) rfl rfl) rfl rfl hl.1 rfl (lv_room (Nat.le_of_ble_eq_true rfl)) dX7_reads_24 ⟨Nat.zero_le _, Nat.zero_le _⟩) (fun H locs hw => ?_)
          refine lv_istore_n (lv' := [(3, .int r4), (0, .ref q_t), (1, .int x1), (2, .int x2)]) hx hb dX7_reads_27 rfl hl (by decide) rfl (fun ls hl => ?_)
          refine lv_iload_n hx hb dX7_reads_28 rfl (lv_at hl 0 rfl) ?_
          refine lv_iconst (v := (-1 : Int32)) hx hb dX7_reads_29 (by decide) ?_
          refine lv_icmp_ne (tgt := 55) hx hb dX7_reads_30 (by decide) (fun c6 => ?_) (fun c6 => ?_)
          · have hf := (if_neg c6).symm.trans hf
            refine lv_aload_n hx hb dX7_reads_55 rfl (lv_at hl 1 rfl) ?_
            refine g_get (ci := 7) (C := RX7) (T := TX7) (N := 22) S hinX7 hK hw 0 6 k23 dX7_reads_56 rfl rfl (by decide) rfl ?_
            refine lv_iload_n hx hb dX7_reads_59 rfl (lv_at hl 0 rfl) ?_
            refine lv_dup2_11 hx hb dX7_reads_60 rfl rfl ?_
            obtain ⟨b7, hf⟩ := ck_some hf
            refine g_iald S hK hw 2 0 b7 dX7_reads_61 rfl rfl ?_
            refine lv_iconst (v := (1 : Int32)) hx hb dX7_reads_62 (by decide) ?_
            refine lv_iadd hx hb dX7_reads_63 ?_
            obtain ⟨b8, hf⟩ := ck_some hf
            refine g_iast (ws' := [(q_t, .inr (7, [.ref q_t_boxes, .ref q_t_next, .int t_done, .ref q_t_left, .ref q_t_pairs, .int w_t_many, .ref q_t_lengths, .ref q_t_riggings, .int t_told, .ref q_t_toldLength, .ref q_t_toldRigging, .ref q_t_toldRoom, .int t_ringN, .ref q_t_ring, .ref q_t_was, .ref q_t_saved, .ref q_t_isThere, .ref q_t_forms, .ref q_t_sizes, .ref q_t_items, .ref q_t_moved, .int t_finding])), (q_t_boxes, .inl (cZ, 240, .inl t_boxes)), (q_t_lengths, .inl (cI, 241, .inl (upd w_t_lengths r4.toNatClampNeg ((w_t_lengths r4.toNatClampNeg) + (1 : Int32))))), (q_t_riggings, .inl (cI, 241, .inl w_t_riggings))]) S hK hw 2 0 b8 dX7_reads_64 rfl rfl rfl (fun H locs hw => ?_)
            refine lv_aload_n hx hb dX7_reads_65 rfl (lv_at hl 1 rfl) ?_
            refine g_get (ci := 7) (C := RX7) (T := TX7) (N := 22) S hinX7 hK hw 0 7 k26 dX7_reads_66 rfl rfl (by decide) rfl ?_
            refine lv_iload_n hx hb dX7_reads_69 rfl (lv_at hl 0 rfl) ?_
            refine lv_aload_n hx hb dX7_reads_70 rfl (lv_at hl 1 rfl) ?_
            refine lv_aload_n hx hb dX7_reads_71 rfl (lv_at hl 1 rfl) ?_
            refine g_get (ci := 7) (C := RX7) (T := TX7) (N := 22) S hinX7 hK hw 0 6 k23 dX7_reads_72 rfl rfl (by decide) rfl ?_
            refine lv_iload_n hx hb dX7_reads_75 rfl (lv_at hl 0 rfl) ?_
            obtain ⟨b9, hf⟩ := ck_some hf
            refine g_iald S hK hw 2 0 b9 dX7_reads_76 rfl rfl ?_
            refine lv_iload_n hx hb dX7_reads_77 rfl (lv_at hl 3 rfl) ?_
            refine lv_iconst (v := (1 : Int32)) hx hb dX7_reads_78 (by decide) ?_
            refine lv_iadd hx hb dX7_reads_79 ?_
            obtain ⟨r10, h11, hf⟩ := bd1_some hf
            refine cl_i (wr := [(q_t_boxes, .inl (cZ, 240, .inl t_boxes)), (q_t_riggings, .inl (cI, 241, .inl w_t_riggings))]) (ws' := [(q_t, .inr (7, [.ref q_t_boxes, .ref q_t_next, .int t_done, .ref q_t_left, .ref q_t_pairs, .int w_t_many, .ref q_t_lengths, .ref q_t_riggings, .int t_told, .ref q_t_toldLength, .ref q_t_toldRigging, .ref q_t_toldRoom, .int t_ringN, .ref q_t_ring, .ref q_t_was, .ref q_t_saved, .ref q_t_isThere, .ref q_t_forms, .ref q_t_sizes, .ref q_t_items, .ref q_t_moved, .int t_finding])), (q_t_boxes, .inl (cZ, 240, .inl t_boxes)), (q_t_lengths, .inl (cI, 241, .inl (upd w_t_lengths r4.toNatClampNeg ((w_t_lengths r4.toNatClampNeg) + (1 : Int32))))), (q_t_riggings, .inl (cI, 241, .inl w_t_riggings))]) hA hw [0, 2] [1, 3] [2, 0, 3, 1] rfl rfl rfl (by decide) rfl rfl (va_runV (As := [.int ((upd w_t_lengths r4.toNatClampNeg ((w_t_lengths r4.toNatClampNeg) + (1 : Int32))) r4.toNatClampNeg), .int (x2 + (1 : Int32))]) (rest := [.int r4, .ref q_t_riggings]) S (c_X7_room l D cI cZ cJ cO _ q_t q_t_boxes q_t_next q_t_left q_t_pairs q_t_lengths q_t_riggings q_t_toldLength q_t_toldRigging q_t_toldRoom q_t_ring q_t_was q_t_saved q_t_isThere q_t_forms q_t_sizes q_t_items q_t_moved N ((upd w_t_lengths r4.toNatClampNeg ((w_t_lengths r4.toNatClampNeg) + (1 : Int32))) r4.toNatClampNeg) (x2 + (1 : Int32)) t_done w_t_many t_told t_ringN t_finding (upd w_t_lengths r4.toNatClampNeg ((w_t_lengths r4.toNatClampNeg) + (1 : Int32))) r10 h11) (cwV 2 hts gX7_reads_X7_room rfl rfl rfl (by decide +kernel) ⟨Nat.le_of_ble_eq_true rfl, Nat.le_of_ble_eq_true rfl⟩) (pre_V hK hN hw [0, 2] rfl rfl (C := RX7) (T := TX7) (N := 22) (ci := 7) (q0 := 0) rfl rfl) rfl rfl hl.1 rfl (lv_room (Nat.le_of_ble_eq_true rfl)) dX7_reads_80 ⟨Nat.zero_le _, Nat.zero_le _⟩) (fun H locs hw => ?_)
            obtain ⟨b12, hf⟩ := ck_some hf
            refine g_iast (ws' := [(q_t, .inr (7, [.ref q_t_boxes, .ref q_t_next, .int t_done, .ref q_t_left, .ref q_t_pairs, .int w_t_many, .ref q_t_lengths, .ref q_t_riggings, .int t_told, .ref q_t_toldLength, .ref q_t_toldRigging, .ref q_t_toldRoom, .int t_ringN, .ref q_t_ring, .ref q_t_was, .ref q_t_saved, .ref q_t_isThere, .ref q_t_forms, .ref q_t_sizes, .ref q_t_items, .ref q_t_moved, .int t_finding])), (q_t_boxes, .inl (cZ, 240, .inl t_boxes)), (q_t_lengths, .inl (cI, 241, .inl (upd w_t_lengths r4.toNatClampNeg ((w_t_lengths r4.toNatClampNeg) + (1 : Int32))))), (q_t_riggings, .inl (cI, 241, .inl (upd w_t_riggings r4.toNatClampNeg r10)))]) S hK hw 3 0 b12 dX7_reads_83 rfl rfl rfl (fun H locs hw => ?_)
            refine lv_iinc (v := (x2 + (1 : Int32))) (lv' := [(2, .int (x2 + (1 : Int32))), (3, .int r4), (0, .ref q_t), (1, .int x1)]) hx hb dX7_reads_84 hl (k := 3) rfl rfl (by decide) rfl (fun ls hl => ?_)
            refine lv_goto (tgt := 7) hx hb dX7_reads_87 (by decide) ?_
            exact ih (x2 + (1 : Int32)) w_t_many (upd w_t_lengths r4.toNatClampNeg ((w_t_lengths r4.toNatClampNeg) + (1 : Int32))) (upd w_t_riggings r4.toNatClampNeg r10) _ _ _ hw (lv_sub hl [2, 3, 0] rfl) hf
          · have hf := (if_pos c6).symm.trans hf
            refine lv_aload_n hx hb dX7_reads_33 rfl (lv_at hl 1 rfl) ?_
            refine g_get (ci := 7) (C := RX7) (T := TX7) (N := 22) S hinX7 hK hw 0 5 k87 dX7_reads_34 rfl rfl (by decide) rfl ?_
            refine lv_istore_n (lv' := [(3, .int w_t_many), (0, .ref q_t), (1, .int x1), (2, .int x2)]) hx hb dX7_reads_37 rfl hl (by decide) rfl (fun ls hl => ?_)
            refine lv_aload_n hx hb dX7_reads_38 rfl (lv_at hl 1 rfl) ?_
            refine g_get (ci := 7) (C := RX7) (T := TX7) (N := 22) S hinX7 hK hw 0 6 k23 dX7_reads_39 rfl rfl (by decide) rfl ?_
            refine lv_iload_n hx hb dX7_reads_42 rfl (lv_at hl 0 rfl) ?_
            refine lv_iconst (v := (0 : Int32)) hx hb dX7_reads_43 (by decide) ?_
            obtain ⟨b13, hf⟩ := ck_some hf
            refine g_iast (ws' := [(q_t, .inr (7, [.ref q_t_boxes, .ref q_t_next, .int t_done, .ref q_t_left, .ref q_t_pairs, .int w_t_many, .ref q_t_lengths, .ref q_t_riggings, .int t_told, .ref q_t_toldLength, .ref q_t_toldRigging, .ref q_t_toldRoom, .int t_ringN, .ref q_t_ring, .ref q_t_was, .ref q_t_saved, .ref q_t_isThere, .ref q_t_forms, .ref q_t_sizes, .ref q_t_items, .ref q_t_moved, .int t_finding])), (q_t_boxes, .inl (cZ, 240, .inl t_boxes)), (q_t_lengths, .inl (cI, 241, .inl (upd w_t_lengths w_t_many.toNatClampNeg (0 : Int32)))), (q_t_riggings, .inl (cI, 241, .inl w_t_riggings))]) S hK hw 2 0 b13 dX7_reads_44 rfl rfl rfl (fun H locs hw => ?_)
            refine lv_aload_n hx hb dX7_reads_45 rfl (lv_at hl 1 rfl) ?_
            refine lv_dup hx hb dX7_reads_46 rfl ?_
            refine g_get (ci := 7) (C := RX7) (T := TX7) (N := 22) S hinX7 hK hw 0 5 k87 dX7_reads_47 rfl rfl (by decide) rfl ?_
            refine lv_iconst (v := (1 : Int32)) hx hb dX7_reads_50 (by decide) ?_
            refine lv_iadd hx hb dX7_reads_51 ?_
            refine g_put (ci := 7) (C := RX7) (T := TX7) (N := 22) (ws' := [(q_t, .inr (7, [.ref q_t_boxes, .ref q_t_next, .int t_done, .ref q_t_left, .ref q_t_pairs, .int (w_t_many + (1 : Int32)), .ref q_t_lengths, .ref q_t_riggings, .int t_told, .ref q_t_toldLength, .ref q_t_toldRigging, .ref q_t_toldRoom, .int t_ringN, .ref q_t_ring, .ref q_t_was, .ref q_t_saved, .ref q_t_isThere, .ref q_t_forms, .ref q_t_sizes, .ref q_t_items, .ref q_t_moved, .int t_finding])), (q_t_boxes, .inl (cZ, 240, .inl t_boxes)), (q_t_lengths, .inl (cI, 241, .inl (upd w_t_lengths w_t_many.toNatClampNeg (0 : Int32)))), (q_t_riggings, .inl (cI, 241, .inl w_t_riggings))]) S hinX7 tyX7 tyX7_ok nmX7 hK hw 0 5 k87 dX7_reads_52 rfl rfl (by decide) rfl rfl rfl (Nat.le_of_ble_eq_true rfl) rfl (fun H locs hw => ?_)
            refine lv_aload_n hx hb dX7_reads_55 rfl (lv_at hl 1 rfl) ?_
            refine g_get (ci := 7) (C := RX7) (T := TX7) (N := 22) S hinX7 hK hw 0 6 k23 dX7_reads_56 rfl rfl (by decide) rfl ?_
            refine lv_iload_n hx hb dX7_reads_59 rfl (lv_at hl 0 rfl) ?_
            refine lv_dup2_11 hx hb dX7_reads_60 rfl rfl ?_
            obtain ⟨b14, hf⟩ := ck_some hf
            refine g_iald S hK hw 2 0 b14 dX7_reads_61 rfl rfl ?_
            refine lv_iconst (v := (1 : Int32)) hx hb dX7_reads_62 (by decide) ?_
            refine lv_iadd hx hb dX7_reads_63 ?_
            obtain ⟨b15, hf⟩ := ck_some hf
            refine g_iast (ws' := [(q_t, .inr (7, [.ref q_t_boxes, .ref q_t_next, .int t_done, .ref q_t_left, .ref q_t_pairs, .int (w_t_many + (1 : Int32)), .ref q_t_lengths, .ref q_t_riggings, .int t_told, .ref q_t_toldLength, .ref q_t_toldRigging, .ref q_t_toldRoom, .int t_ringN, .ref q_t_ring, .ref q_t_was, .ref q_t_saved, .ref q_t_isThere, .ref q_t_forms, .ref q_t_sizes, .ref q_t_items, .ref q_t_moved, .int t_finding])), (q_t_boxes, .inl (cZ, 240, .inl t_boxes)), (q_t_lengths, .inl (cI, 241, .inl (upd (upd w_t_lengths w_t_many.toNatClampNeg (0 : Int32)) w_t_many.toNatClampNeg (((upd w_t_lengths w_t_many.toNatClampNeg (0 : Int32)) w_t_many.toNatClampNeg) + (1 : Int32))))), (q_t_riggings, .inl (cI, 241, .inl w_t_riggings))]) S hK hw 2 0 b15 dX7_reads_64 rfl rfl rfl (fun H locs hw => ?_)
            refine lv_aload_n hx hb dX7_reads_65 rfl (lv_at hl 1 rfl) ?_
            refine g_get (ci := 7) (C := RX7) (T := TX7) (N := 22) S hinX7 hK hw 0 7 k26 dX7_reads_66 rfl rfl (by decide) rfl ?_
            refine lv_iload_n hx hb dX7_reads_69 rfl (lv_at hl 0 rfl) ?_
            refine lv_aload_n hx hb dX7_reads_70 rfl (lv_at hl 1 rfl) ?_
            refine lv_aload_n hx hb dX7_reads_71 rfl (lv_at hl 1 rfl) ?_
            refine g_get (ci := 7) (C := RX7) (T := TX7) (N := 22) S hinX7 hK hw 0 6 k23 dX7_reads_72 rfl rfl (by decide) rfl ?_
            refine lv_iload_n hx hb dX7_reads_75 rfl (lv_at hl 0 rfl) ?_
            obtain ⟨b16, hf⟩ := ck_some hf
            refine g_iald S hK hw 2 0 b16 dX7_reads_76 rfl rfl ?_
            refine lv_iload_n hx hb dX7_reads_77 rfl (lv_at hl 3 rfl) ?_
            refine lv_iconst (v := (1 : Int32)) hx hb dX7_reads_78 (by decide) ?_
            refine lv_iadd hx hb dX7_reads_79 ?_
            obtain ⟨r17, h18, hf⟩ := bd1_some hf
            refine cl_i (wr := [(q_t_boxes, .inl (cZ, 240, .inl t_boxes)), (q_t_riggings, .inl (cI, 241, .inl w_t_riggings))]) (ws' := [(q_t, .inr (7, [.ref q_t_boxes, .ref q_t_next, .int t_done, .ref q_t_left, .ref q_t_pairs, .int (w_t_many + (1 : Int32)), .ref q_t_lengths, .ref q_t_riggings, .int t_told, .ref q_t_toldLength, .ref q_t_toldRigging, .ref q_t_toldRoom, .int t_ringN, .ref q_t_ring, .ref q_t_was, .ref q_t_saved, .ref q_t_isThere, .ref q_t_forms, .ref q_t_sizes, .ref q_t_items, .ref q_t_moved, .int t_finding])), (q_t_boxes, .inl (cZ, 240, .inl t_boxes)), (q_t_lengths, .inl (cI, 241, .inl (upd (upd w_t_lengths w_t_many.toNatClampNeg (0 : Int32)) w_t_many.toNatClampNeg (((upd w_t_lengths w_t_many.toNatClampNeg (0 : Int32)) w_t_many.toNatClampNeg) + (1 : Int32))))), (q_t_riggings, .inl (cI, 241, .inl w_t_riggings))]) hA hw [0, 2] [1, 3] [2, 0, 3, 1] rfl rfl rfl (by decide) rfl rfl (va_runV (As := [.int ((upd (upd w_t_lengths w_t_many.toNatClampNeg (0 : Int32)) w_t_many.toNatClampNeg (((upd w_t_lengths w_t_many.toNatClampNeg (0 : Int32)) w_t_many.toNatClampNeg) + (1 : Int32))) w_t_many.toNatClampNeg), .int (x2 + (1 : Int32))]) (rest := [.int w_t_many, .ref q_t_riggings]) S (c_X7_room l D cI cZ cJ cO _ q_t q_t_boxes q_t_next q_t_left q_t_pairs q_t_lengths q_t_riggings q_t_toldLength q_t_toldRigging q_t_toldRoom q_t_ring q_t_was q_t_saved q_t_isThere q_t_forms q_t_sizes q_t_items q_t_moved N ((upd (upd w_t_lengths w_t_many.toNatClampNeg (0 : Int32)) w_t_many.toNatClampNeg (((upd w_t_lengths w_t_many.toNatClampNeg (0 : Int32)) w_t_many.toNatClampNeg) + (1 : Int32))) w_t_many.toNatClampNeg) (x2 + (1 : Int32)) t_done (w_t_many + (1 : Int32)) t_told t_ringN t_finding (upd (upd w_t_lengths w_t_many.toNatClampNeg (0 : Int32)) w_t_many.toNatClampNeg (((upd w_t_lengths w_t_many.toNatClampNeg (0 : Int32)) w_t_many.toNatClampNeg) + (1 : Int32))) r17 h18) (cwV 2 hts gX7_reads_X7_room rfl rfl rfl (by decide +kernel) ⟨Nat.le_of_ble_eq_true rfl, Nat.le_of_ble_eq_true rfl⟩) (pre_V hK hN hw [0, 2] rfl rfl (C := RX7) (T := TX7) (N := 22) (ci := 7) (q0 := 0) rfl rfl) rfl rfl hl.1 rfl (lv_room (Nat.le_of_ble_eq_true rfl)) dX7_reads_80 ⟨Nat.zero_le _, Nat.zero_le _⟩) (fun H locs hw => ?_)
            obtain ⟨b19, hf⟩ := ck_some hf
            refine g_iast (ws' := [(q_t, .inr (7, [.ref q_t_boxes, .ref q_t_next, .int t_done, .ref q_t_left, .ref q_t_pairs, .int (w_t_many + (1 : Int32)), .ref q_t_lengths, .ref q_t_riggings, .int t_told, .ref q_t_toldLength, .ref q_t_toldRigging, .ref q_t_toldRoom, .int t_ringN, .ref q_t_ring, .ref q_t_was, .ref q_t_saved, .ref q_t_isThere, .ref q_t_forms, .ref q_t_sizes, .ref q_t_items, .ref q_t_moved, .int t_finding])), (q_t_boxes, .inl (cZ, 240, .inl t_boxes)), (q_t_lengths, .inl (cI, 241, .inl (upd (upd w_t_lengths w_t_many.toNatClampNeg (0 : Int32)) w_t_many.toNatClampNeg (((upd w_t_lengths w_t_many.toNatClampNeg (0 : Int32)) w_t_many.toNatClampNeg) + (1 : Int32))))), (q_t_riggings, .inl (cI, 241, .inl (upd w_t_riggings w_t_many.toNatClampNeg r17)))]) S hK hw 3 0 b19 dX7_reads_83 rfl rfl rfl (fun H locs hw => ?_)
            refine lv_iinc (v := (x2 + (1 : Int32))) (lv' := [(2, .int (x2 + (1 : Int32))), (3, .int w_t_many), (0, .ref q_t), (1, .int x1)]) hx hb dX7_reads_84 hl (k := 3) rfl rfl (by decide) rfl (fun ls hl => ?_)
            refine lv_goto (tgt := 7) hx hb dX7_reads_87 (by decide) ?_
            exact ih (x2 + (1 : Int32)) (w_t_many + (1 : Int32)) (upd (upd w_t_lengths w_t_many.toNatClampNeg (0 : Int32)) w_t_many.toNatClampNeg (((upd w_t_lengths w_t_many.toNatClampNeg (0 : Int32)) w_t_many.toNatClampNeg) + (1 : Int32))) (upd w_t_riggings w_t_many.toNatClampNeg r17) _ _ _ hw (lv_sub hl [2, 3, 0] rfl) hf
  unfold f_X7_reads at hf
  refine lv_aload_n hx hb dX7_reads_0 rfl (lv_at hl 0 rfl) ?_
  refine lv_iconst (v := (0 : Int32)) hx hb dX7_reads_1 (by decide) ?_
  refine g_put (ci := 7) (C := RX7) (T := TX7) (N := 22) (ws' := [(q_t, .inr (7, [.ref q_t_boxes, .ref q_t_next, .int t_done, .ref q_t_left, .ref q_t_pairs, .int (0 : Int32), .ref q_t_lengths, .ref q_t_riggings, .int t_told, .ref q_t_toldLength, .ref q_t_toldRigging, .ref q_t_toldRoom, .int t_ringN, .ref q_t_ring, .ref q_t_was, .ref q_t_saved, .ref q_t_isThere, .ref q_t_forms, .ref q_t_sizes, .ref q_t_items, .ref q_t_moved, .int t_finding])), (q_t_boxes, .inl (cZ, 240, .inl t_boxes)), (q_t_lengths, .inl (cI, 241, .inl t_lengths)), (q_t_riggings, .inl (cI, 241, .inl t_riggings))]) S hinX7 tyX7 tyX7_ok nmX7 hK hw 0 5 k87 dX7_reads_2 rfl rfl (by decide) rfl rfl rfl (Nat.le_of_ble_eq_true rfl) rfl (fun H locs hw => ?_)
  refine lv_iconst (v := (0 : Int32)) hx hb dX7_reads_5 (by decide) ?_
  refine lv_istore_n (lv' := [(2, .int (0 : Int32)), (0, .ref q_t), (1, .int p1)]) hx hb dX7_reads_6 rfl hl (by decide) rfl (fun ls hl => ?_)
  refine Lp7 p1 _ (fun u20 u21 u22 H locs ls hw hl hf => ?_) N (0 : Int32) (0 : Int32) t_lengths t_riggings _ _ _ hw (lv_sub hl [1, 2, 0] rfl) hf
  obtain ⟨rfl, rfl, rfl⟩ := pr3 (Option.some.inj hf)
  exact rt_v S hr hlk hw dX7_reads_90

def f_X7_drops (_ : Nat) (p1 : Int32) (t_many : Int32) (t_lengths : (Nat → Int32)) (t_riggings : (Nat → Int32)) : Option (Int32 × (Nat → Int32) × (Nat → Int32)) :=
  (ck (inb (t_many - (1 : Int32)) 241) (ck (inb p1 241) (ck (inb (t_many - (1 : Int32)) 241) (ck (inb p1 241) (some ((t_many - (1 : Int32)), (upd t_lengths p1.toNatClampNeg (t_lengths (t_many - (1 : Int32)).toNatClampNeg)), (upd t_riggings p1.toNatClampNeg (t_riggings (t_many - (1 : Int32)).toNatClampNeg))))))))

set_option maxHeartbeats 4000000 in
set_option maxRecDepth 100000 in
theorem c_X7_drops (l : Launch) (D : va_G) (cI cZ cJ cO : ClassId) (sz : Nat) (q_t q_t_boxes q_t_next q_t_left q_t_pairs q_t_lengths q_t_riggings q_t_toldLength q_t_toldRigging q_t_toldRoom q_t_ring q_t_was q_t_saved q_t_isThere q_t_forms q_t_sizes q_t_items q_t_moved : Nat) (N : Nat) (p1 : Int32) (t_done : Int32) (t_many : Int32) (t_told : Int32) (t_ringN : Int32) (t_finding : Int32) (t_lengths : (Nat → Int32)) (t_riggings : (Nat → Int32)) (o_t_many : Int32) (o_t_lengths : (Nat → Int32)) (o_t_riggings : (Nat → Int32)) (hf : f_X7_drops N p1 t_many t_lengths t_riggings = some (o_t_many, o_t_lengths, o_t_riggings)) : Met l yX7_drops wsX7_drops ({ frames := 0, cells := 0, slots := 0, locals := 0 }) (PreC D (TY cI cZ cJ cO) [.ref q_t, .int p1] [(q_t, .inr (7, [.ref q_t_boxes, .ref q_t_next, .int t_done, .ref q_t_left, .ref q_t_pairs, .int t_many, .ref q_t_lengths, .ref q_t_riggings, .int t_told, .ref q_t_toldLength, .ref q_t_toldRigging, .ref q_t_toldRoom, .int t_ringN, .ref q_t_ring, .ref q_t_was, .ref q_t_saved, .ref q_t_isThere, .ref q_t_forms, .ref q_t_sizes, .ref q_t_items, .ref q_t_moved, .int t_finding])), (q_t_lengths, .inl (cI, 241, .inl t_lengths)), (q_t_riggings, .inl (cI, 241, .inl t_riggings))] sz) (QcV D [(q_t, .inr (7, [.ref q_t_boxes, .ref q_t_next, .int t_done, .ref q_t_left, .ref q_t_pairs, .int o_t_many, .ref q_t_lengths, .ref q_t_riggings, .int t_told, .ref q_t_toldLength, .ref q_t_toldRigging, .ref q_t_toldRoom, .int t_ringN, .ref q_t_ring, .ref q_t_was, .ref q_t_saved, .ref q_t_isThere, .ref q_t_forms, .ref q_t_sizes, .ref q_t_items, .ref q_t_moved, .int t_finding])), (q_t_lengths, .inl (cI, 241, .inl o_t_lengths)), (q_t_riggings, .inl (cI, 241, .inl o_t_riggings))] (va_A [(q_t, .inr (7, [.ref q_t_boxes, .ref q_t_next, .int t_done, .ref q_t_left, .ref q_t_pairs, .int t_many, .ref q_t_lengths, .ref q_t_riggings, .int t_told, .ref q_t_toldLength, .ref q_t_toldRigging, .ref q_t_toldRoom, .int t_ringN, .ref q_t_ring, .ref q_t_was, .ref q_t_saved, .ref q_t_isThere, .ref q_t_forms, .ref q_t_sizes, .ref q_t_items, .ref q_t_moved, .int t_finding])), (q_t_lengths, .inl (cI, 241, .inl t_lengths)), (q_t_riggings, .inl (cI, 241, .inl t_riggings))] sz)) 0 0 (va_A [(q_t, .inr (7, [.ref q_t_boxes, .ref q_t_next, .int t_done, .ref q_t_left, .ref q_t_pairs, .int t_many, .ref q_t_lengths, .ref q_t_riggings, .int t_told, .ref q_t_toldLength, .ref q_t_toldRigging, .ref q_t_toldRoom, .int t_ringN, .ref q_t_ring, .ref q_t_was, .ref q_t_saved, .ref q_t_isThere, .ref q_t_forms, .ref q_t_sizes, .ref q_t_items, .ref q_t_moved, .int t_finding])), (q_t_lengths, .inl (cI, 241, .inl t_lengths)), (q_t_riggings, .inl (cI, 241, .inl t_riggings))] sz) := by
  refine ctr (cc := cX7_drops) (maxL := 2) (ret := none) (by decide) rfl (Nat.le_of_ble_eq_true rfl) ?_
  intro p e s m below meth c S hr hlk hnm hK hN hsz hA hw ls hl
  generalize va_A [(q_t, .inr (7, [.ref q_t_boxes, .ref q_t_next, .int t_done, .ref q_t_left, .ref q_t_pairs, .int t_many, .ref q_t_lengths, .ref q_t_riggings, .int t_told, .ref q_t_toldLength, .ref q_t_toldRigging, .ref q_t_toldRoom, .int t_ringN, .ref q_t_ring, .ref q_t_was, .ref q_t_saved, .ref q_t_isThere, .ref q_t_forms, .ref q_t_sizes, .ref q_t_items, .ref q_t_moved, .int t_finding])), (q_t_lengths, .inl (cI, 241, .inl t_lengths)), (q_t_riggings, .inl (cI, 241, .inl t_riggings))] sz = A at hA hw ⊢
  have S : CallFix p m c cX7_drops 2 s ([.ref q_t, .int p1] : List Value).toArray wsX7_drops RX7 := S
  have hx := S.1
  have hb := S.2.1
  have hts := S.2.2.2.2
  have hl : lv_has ls 2 [(0, .ref q_t), (1, .int p1)] := hl
  have hinX7 : ∀ w ∈ u_ws RX7 TX7 22, w ∈ wsX7_drops := by decide +kernel
  have k23 : Cond.fieldLink RX7 23 "BallBoxesModel" "lengths" "[I" ∈ wsX7_drops := by decide +kernel
  have k26 : Cond.fieldLink RX7 26 "BallBoxesModel" "riggings" "[I" ∈ wsX7_drops := by decide +kernel
  have k87 : Cond.fieldLink RX7 87 "BallBoxesModel" "many" "I" ∈ wsX7_drops := by decide +kernel
  unfold f_X7_drops at hf
  refine lv_aload_n hx hb dX7_drops_0 rfl (lv_at hl 0 rfl) ?_
  refine lv_dup hx hb dX7_drops_1 rfl ?_
  refine g_get (ci := 7) (C := RX7) (T := TX7) (N := 22) S hinX7 hK hw 0 5 k87 dX7_drops_2 rfl rfl (by decide) rfl ?_
  refine lv_iconst (v := (1 : Int32)) hx hb dX7_drops_5 (by decide) ?_
  refine lv_isub hx hb dX7_drops_6 ?_
  refine g_put (ci := 7) (C := RX7) (T := TX7) (N := 22) (ws' := [(q_t, .inr (7, [.ref q_t_boxes, .ref q_t_next, .int t_done, .ref q_t_left, .ref q_t_pairs, .int (t_many - (1 : Int32)), .ref q_t_lengths, .ref q_t_riggings, .int t_told, .ref q_t_toldLength, .ref q_t_toldRigging, .ref q_t_toldRoom, .int t_ringN, .ref q_t_ring, .ref q_t_was, .ref q_t_saved, .ref q_t_isThere, .ref q_t_forms, .ref q_t_sizes, .ref q_t_items, .ref q_t_moved, .int t_finding])), (q_t_lengths, .inl (cI, 241, .inl t_lengths)), (q_t_riggings, .inl (cI, 241, .inl t_riggings))]) S hinX7 tyX7 tyX7_ok nmX7 hK hw 0 5 k87 dX7_drops_7 rfl rfl (by decide) rfl rfl rfl (Nat.le_of_ble_eq_true rfl) rfl (fun H locs hw => ?_)
  refine lv_aload_n hx hb dX7_drops_10 rfl (lv_at hl 0 rfl) ?_
  refine g_get (ci := 7) (C := RX7) (T := TX7) (N := 22) S hinX7 hK hw 0 6 k23 dX7_drops_11 rfl rfl (by decide) rfl ?_
  refine lv_iload_n hx hb dX7_drops_14 rfl (lv_at hl 1 rfl) ?_
  refine lv_aload_n hx hb dX7_drops_15 rfl (lv_at hl 0 rfl) ?_
  refine g_get (ci := 7) (C := RX7) (T := TX7) (N := 22) S hinX7 hK hw 0 6 k23 dX7_drops_16 rfl rfl (by decide) rfl ?_
  refine lv_aload_n hx hb dX7_drops_19 rfl (lv_at hl 0 rfl) ?_
  refine g_get (ci := 7) (C := RX7) (T := TX7) (N := 22) S hinX7 hK hw 0 5 k87 dX7_drops_20 rfl rfl (by decide) rfl ?_
  obtain ⟨b1, hf⟩ := ck_some hf
  refine g_iald S hK hw 1 0 b1 dX7_drops_23 rfl rfl ?_
  obtain ⟨b2, hf⟩ := ck_some hf
  refine g_iast (ws' := [(q_t, .inr (7, [.ref q_t_boxes, .ref q_t_next, .int t_done, .ref q_t_left, .ref q_t_pairs, .int (t_many - (1 : Int32)), .ref q_t_lengths, .ref q_t_riggings, .int t_told, .ref q_t_toldLength, .ref q_t_toldRigging, .ref q_t_toldRoom, .int t_ringN, .ref q_t_ring, .ref q_t_was, .ref q_t_saved, .ref q_t_isThere, .ref q_t_forms, .ref q_t_sizes, .ref q_t_items, .ref q_t_moved, .int t_finding])), (q_t_lengths, .inl (cI, 241, .inl (upd t_lengths p1.toNatClampNeg (t_lengths (t_many - (1 : Int32)).toNatClampNeg)))), (q_t_riggings, .inl (cI, 241, .inl t_riggings))]) S hK hw 1 0 b2 dX7_drops_24 rfl rfl rfl (fun H locs hw => ?_)
  refine lv_aload_n hx hb dX7_drops_25 rfl (lv_at hl 0 rfl) ?_
  refine g_get (ci := 7) (C := RX7) (T := TX7) (N := 22) S hinX7 hK hw 0 7 k26 dX7_drops_26 rfl rfl (by decide) rfl ?_
  refine lv_iload_n hx hb dX7_drops_29 rfl (lv_at hl 1 rfl) ?_
  refine lv_aload_n hx hb dX7_drops_30 rfl (lv_at hl 0 rfl) ?_
  refine g_get (ci := 7) (C := RX7) (T := TX7) (N := 22) S hinX7 hK hw 0 7 k26 dX7_drops_31 rfl rfl (by decide) rfl ?_
  refine lv_aload_n hx hb dX7_drops_34 rfl (lv_at hl 0 rfl) ?_
  refine g_get (ci := 7) (C := RX7) (T := TX7) (N := 22) S hinX7 hK hw 0 5 k87 dX7_drops_35 rfl rfl (by decide) rfl ?_
  obtain ⟨b3, hf⟩ := ck_some hf
  refine g_iald S hK hw 2 0 b3 dX7_drops_38 rfl rfl ?_
  obtain ⟨b4, hf⟩ := ck_some hf
  refine g_iast (ws' := [(q_t, .inr (7, [.ref q_t_boxes, .ref q_t_next, .int t_done, .ref q_t_left, .ref q_t_pairs, .int (t_many - (1 : Int32)), .ref q_t_lengths, .ref q_t_riggings, .int t_told, .ref q_t_toldLength, .ref q_t_toldRigging, .ref q_t_toldRoom, .int t_ringN, .ref q_t_ring, .ref q_t_was, .ref q_t_saved, .ref q_t_isThere, .ref q_t_forms, .ref q_t_sizes, .ref q_t_items, .ref q_t_moved, .int t_finding])), (q_t_lengths, .inl (cI, 241, .inl (upd t_lengths p1.toNatClampNeg (t_lengths (t_many - (1 : Int32)).toNatClampNeg)))), (q_t_riggings, .inl (cI, 241, .inl (upd t_riggings p1.toNatClampNeg (t_riggings (t_many - (1 : Int32)).toNatClampNeg))))]) S hK hw 2 0 b4 dX7_drops_39 rfl rfl rfl (fun H locs hw => ?_)
  obtain ⟨rfl, rfl, rfl⟩ := pr3 (Option.some.inj hf)
  exact rt_v S hr hlk hw dX7_drops_40

def L_X7_makes_4 (N : Nat) (K : Int32 → (Nat → Int32) → (Nat → Int32) → (Nat → Int32) → Option (Int32 × Int32 × (Nat → Int32) × (Nat → Int32) × (Nat → Int32))) : Nat → Int32 → Int32 → (Nat → Int32) → (Nat → Int32) → (Nat → Int32) → Option (Int32 × Int32 × (Nat → Int32) × (Nat → Int32) × (Nat → Int32))
  | 0, _, _, _, _, _ => none
  | n + 1, x1, w_t_many, w_t_next, w_t_lengths, w_t_riggings => (if x1 < (0 : Int32) then (K w_t_many w_t_next w_t_lengths w_t_riggings) else (bd1 (f_X7_tight N (x1 + (1 : Int32)) (0 : Int32) w_t_many w_t_lengths w_t_riggings) (fun r2 => (if r2 = (-1 : Int32) then (ck (inb x1 240) (if r2 = (-1 : Int32) then (L_X7_makes_4 N K n (x1 + (-1 : Int32)) w_t_many (upd w_t_next x1.toNatClampNeg (vp_nar .boolean (0 : Int32))) w_t_lengths w_t_riggings) else (ck (inb r2 241) (ck (inb r2 241) (ck (inb r2 241) (if ((upd w_t_lengths r2.toNatClampNeg ((w_t_lengths r2.toNatClampNeg) - (1 : Int32))) r2.toNatClampNeg) = (0 : Int32) then (bd3 (f_X7_drops N r2 w_t_many (upd w_t_lengths r2.toNatClampNeg ((w_t_lengths r2.toNatClampNeg) - (1 : Int32))) w_t_riggings) (fun u15 u16 u17 => (L_X7_makes_4 N K n (x1 + (-1 : Int32)) u15 (upd w_t_next x1.toNatClampNeg (vp_nar .boolean (0 : Int32))) u16 u17))) else (ck (inb r2 241) (bd1 (f_X7_room N ((upd w_t_lengths r2.toNatClampNeg ((w_t_lengths r2.toNatClampNeg) - (1 : Int32))) r2.toNatClampNeg) x1 w_t_many (upd w_t_lengths r2.toNatClampNeg ((w_t_lengths r2.toNatClampNeg) - (1 : Int32)))) (fun r12 => (ck (inb r2 241) (L_X7_makes_4 N K n (x1 + (-1 : Int32)) w_t_many (upd w_t_next x1.toNatClampNeg (vp_nar .boolean (0 : Int32))) (upd w_t_lengths r2.toNatClampNeg ((w_t_lengths r2.toNatClampNeg) - (1 : Int32))) (upd w_t_riggings r2.toNatClampNeg r12)))))))))))) else (ck (inb x1 240) (if r2 = (-1 : Int32) then (L_X7_makes_4 N K n (x1 + (-1 : Int32)) w_t_many (upd w_t_next x1.toNatClampNeg (vp_nar .boolean (1 : Int32))) w_t_lengths w_t_riggings) else (ck (inb r2 241) (ck (inb r2 241) (ck (inb r2 241) (if ((upd w_t_lengths r2.toNatClampNeg ((w_t_lengths r2.toNatClampNeg) - (1 : Int32))) r2.toNatClampNeg) = (0 : Int32) then (bd3 (f_X7_drops N r2 w_t_many (upd w_t_lengths r2.toNatClampNeg ((w_t_lengths r2.toNatClampNeg) - (1 : Int32))) w_t_riggings) (fun u29 u30 u31 => (L_X7_makes_4 N K n (x1 + (-1 : Int32)) u29 (upd w_t_next x1.toNatClampNeg (vp_nar .boolean (1 : Int32))) u30 u31))) else (ck (inb r2 241) (bd1 (f_X7_room N ((upd w_t_lengths r2.toNatClampNeg ((w_t_lengths r2.toNatClampNeg) - (1 : Int32))) r2.toNatClampNeg) x1 w_t_many (upd w_t_lengths r2.toNatClampNeg ((w_t_lengths r2.toNatClampNeg) - (1 : Int32)))) (fun r26 => (ck (inb r2 241) (L_X7_makes_4 N K n (x1 + (-1 : Int32)) w_t_many (upd w_t_next x1.toNatClampNeg (vp_nar .boolean (1 : Int32))) (upd w_t_lengths r2.toNatClampNeg ((w_t_lengths r2.toNatClampNeg) - (1 : Int32))) (upd w_t_riggings r2.toNatClampNeg r26))))))))))))))))

def f_X7_makes (N : Nat)  (t_many : Int32) (t_next : (Nat → Int32)) (t_lengths : (Nat → Int32)) (t_riggings : (Nat → Int32)) : Option (Int32 × Int32 × (Nat → Int32) × (Nat → Int32) × (Nat → Int32)) :=
  (L_X7_makes_4 N  (fun u33 u34 u35 u36 => (if u33 = (0 : Int32) then (some ((1 : Int32), u33, u34, u35, u36)) else (some ((0 : Int32), u33, u34, u35, u36)))) N (239 : Int32) t_many t_next t_lengths t_riggings)

set_option maxHeartbeats 4000000 in
set_option maxRecDepth 100000 in
theorem c_X7_makes (l : Launch) (D : va_G) (cI cZ cJ cO : ClassId) (sz : Nat) (q_t q_t_boxes q_t_next q_t_left q_t_pairs q_t_lengths q_t_riggings q_t_toldLength q_t_toldRigging q_t_toldRoom q_t_ring q_t_was q_t_saved q_t_isThere q_t_forms q_t_sizes q_t_items q_t_moved : Nat) (N : Nat)  (t_done : Int32) (t_many : Int32) (t_told : Int32) (t_ringN : Int32) (t_finding : Int32) (t_next : (Nat → Int32)) (t_lengths : (Nat → Int32)) (t_riggings : (Nat → Int32)) (r : Int32) (o_t_many : Int32) (o_t_next : (Nat → Int32)) (o_t_lengths : (Nat → Int32)) (o_t_riggings : (Nat → Int32)) (hf : f_X7_makes N t_many t_next t_lengths t_riggings = some (r, o_t_many, o_t_next, o_t_lengths, o_t_riggings)) : Met l yX7_makes wsX7_makes ({ frames := 2, cells := 0, slots := 0, locals := 49 }) (PreC D (TY cI cZ cJ cO) [.ref q_t] [(q_t, .inr (7, [.ref q_t_boxes, .ref q_t_next, .int t_done, .ref q_t_left, .ref q_t_pairs, .int t_many, .ref q_t_lengths, .ref q_t_riggings, .int t_told, .ref q_t_toldLength, .ref q_t_toldRigging, .ref q_t_toldRoom, .int t_ringN, .ref q_t_ring, .ref q_t_was, .ref q_t_saved, .ref q_t_isThere, .ref q_t_forms, .ref q_t_sizes, .ref q_t_items, .ref q_t_moved, .int t_finding])), (q_t_next, .inl (cZ, 240, .inl t_next)), (q_t_lengths, .inl (cI, 241, .inl t_lengths)), (q_t_riggings, .inl (cI, 241, .inl t_riggings))] sz) (QcI D [(q_t, .inr (7, [.ref q_t_boxes, .ref q_t_next, .int t_done, .ref q_t_left, .ref q_t_pairs, .int o_t_many, .ref q_t_lengths, .ref q_t_riggings, .int t_told, .ref q_t_toldLength, .ref q_t_toldRigging, .ref q_t_toldRoom, .int t_ringN, .ref q_t_ring, .ref q_t_was, .ref q_t_saved, .ref q_t_isThere, .ref q_t_forms, .ref q_t_sizes, .ref q_t_items, .ref q_t_moved, .int t_finding])), (q_t_next, .inl (cZ, 240, .inl o_t_next)), (q_t_lengths, .inl (cI, 241, .inl o_t_lengths)), (q_t_riggings, .inl (cI, 241, .inl o_t_riggings))] (va_A [(q_t, .inr (7, [.ref q_t_boxes, .ref q_t_next, .int t_done, .ref q_t_left, .ref q_t_pairs, .int t_many, .ref q_t_lengths, .ref q_t_riggings, .int t_told, .ref q_t_toldLength, .ref q_t_toldRigging, .ref q_t_toldRoom, .int t_ringN, .ref q_t_ring, .ref q_t_was, .ref q_t_saved, .ref q_t_isThere, .ref q_t_forms, .ref q_t_sizes, .ref q_t_items, .ref q_t_moved, .int t_finding])), (q_t_next, .inl (cZ, 240, .inl t_next)), (q_t_lengths, .inl (cI, 241, .inl t_lengths)), (q_t_riggings, .inl (cI, 241, .inl t_riggings))] sz) r) 0 0 (va_A [(q_t, .inr (7, [.ref q_t_boxes, .ref q_t_next, .int t_done, .ref q_t_left, .ref q_t_pairs, .int t_many, .ref q_t_lengths, .ref q_t_riggings, .int t_told, .ref q_t_toldLength, .ref q_t_toldRigging, .ref q_t_toldRoom, .int t_ringN, .ref q_t_ring, .ref q_t_was, .ref q_t_saved, .ref q_t_isThere, .ref q_t_forms, .ref q_t_sizes, .ref q_t_items, .ref q_t_moved, .int t_finding])), (q_t_next, .inl (cZ, 240, .inl t_next)), (q_t_lengths, .inl (cI, 241, .inl t_lengths)), (q_t_riggings, .inl (cI, 241, .inl t_riggings))] sz) := by
  refine ctr (cc := cX7_makes) (maxL := 3) (ret := (some .boolean)) (by decide) rfl (Nat.le_of_ble_eq_true rfl) ?_
  intro p e s m below meth c S hr hlk hnm hK hN hsz hA hw ls hl
  generalize va_A [(q_t, .inr (7, [.ref q_t_boxes, .ref q_t_next, .int t_done, .ref q_t_left, .ref q_t_pairs, .int t_many, .ref q_t_lengths, .ref q_t_riggings, .int t_told, .ref q_t_toldLength, .ref q_t_toldRigging, .ref q_t_toldRoom, .int t_ringN, .ref q_t_ring, .ref q_t_was, .ref q_t_saved, .ref q_t_isThere, .ref q_t_forms, .ref q_t_sizes, .ref q_t_items, .ref q_t_moved, .int t_finding])), (q_t_next, .inl (cZ, 240, .inl t_next)), (q_t_lengths, .inl (cI, 241, .inl t_lengths)), (q_t_riggings, .inl (cI, 241, .inl t_riggings))] sz = A at hA hw ⊢
  have S : CallFix p m c cX7_makes 3 s ([.ref q_t] : List Value).toArray wsX7_makes RX7 := S
  have hx := S.1
  have hb := S.2.1
  have hts := S.2.2.2.2
  have hl : lv_has ls 3 [(0, .ref q_t)] := hl
  have hinX7 : ∀ w ∈ u_ws RX7 TX7 22, w ∈ wsX7_makes := by decide +kernel
  have k13 : Cond.fieldLink RX7 13 "BallBoxesModel" "next" "[Z" ∈ wsX7_makes := by decide +kernel
  have k23 : Cond.fieldLink RX7 23 "BallBoxesModel" "lengths" "[I" ∈ wsX7_makes := by decide +kernel
  have k26 : Cond.fieldLink RX7 26 "BallBoxesModel" "riggings" "[I" ∈ wsX7_makes := by decide +kernel
  have k87 : Cond.fieldLink RX7 87 "BallBoxesModel" "many" "I" ∈ wsX7_makes := by decide +kernel
  have Lp4 : ∀  (K : Int32 → (Nat → Int32) → (Nat → Int32) → (Nat → Int32) → Option (Int32 × Int32 × (Nat → Int32) × (Nat → Int32) × (Nat → Int32))), (∀ (z_t_many : Int32) (z_t_next : (Nat → Int32)) (z_t_lengths : (Nat → Int32)) (z_t_riggings : (Nat → Int32)) (H : Heap) (locs : List Loc) (ls : Array Slot), Wd D A s.heap [(q_t, .inr (7, [.ref q_t_boxes, .ref q_t_next, .int t_done, .ref q_t_left, .ref q_t_pairs, .int z_t_many, .ref q_t_lengths, .ref q_t_riggings, .int t_told, .ref q_t_toldLength, .ref q_t_toldRigging, .ref q_t_toldRoom, .int t_ringN, .ref q_t_ring, .ref q_t_was, .ref q_t_saved, .ref q_t_isThere, .ref q_t_forms, .ref q_t_sizes, .ref q_t_items, .ref q_t_moved, .int t_finding])), (q_t_next, .inl (cZ, 240, .inl z_t_next)), (q_t_lengths, .inl (cI, 241, .inl z_t_lengths)), (q_t_riggings, .inl (cI, 241, .inl z_t_riggings))] H locs → lv_has ls 3 [(0, .ref q_t)] → K z_t_many z_t_next z_t_lengths z_t_riggings = some (r, o_t_many, o_t_next, o_t_lengths, o_t_riggings) → W p l e ({ frames := 2, cells := 0, slots := 0, locals := 49 } : Room) s m ([.ref q_t] : List Value).toArray below meth c H locs 0 0 (MQ below (QcI D [(q_t, .inr (7, [.ref q_t_boxes, .ref q_t_next, .int t_done, .ref q_t_left, .ref q_t_pairs, .int o_t_many, .ref q_t_lengths, .ref q_t_riggings, .int t_told, .ref q_t_toldLength, .ref q_t_toldRigging, .ref q_t_toldRoom, .int t_ringN, .ref q_t_ring, .ref q_t_was, .ref q_t_saved, .ref q_t_isThere, .ref q_t_forms, .ref q_t_sizes, .ref q_t_items, .ref q_t_moved, .int t_finding])), (q_t_next, .inl (cZ, 240, .inl o_t_next)), (q_t_lengths, .inl (cI, 241, .inl o_t_lengths)), (q_t_riggings, .inl (cI, 241, .inl o_t_riggings))] A r) ([.ref q_t] : List Value).toArray s 0 0 A) (F0 m 88 ls [])) → ∀ (n : Nat) (x1 : Int32) (w_t_many : Int32) (w_t_next : (Nat → Int32)) (w_t_lengths : (Nat → Int32)) (w_t_riggings : (Nat → Int32)) (H : Heap) (locs : List Loc) (ls : Array Slot), Wd D A s.heap [(q_t, .inr (7, [.ref q_t_boxes, .ref q_t_next, .int t_done, .ref q_t_left, .ref q_t_pairs, .int w_t_many, .ref q_t_lengths, .ref q_t_riggings, .int t_told, .ref q_t_toldLength, .ref q_t_toldRigging, .ref q_t_toldRoom, .int t_ringN, .ref q_t_ring, .ref q_t_was, .ref q_t_saved, .ref q_t_isThere, .ref q_t_forms, .ref q_t_sizes, .ref q_t_items, .ref q_t_moved, .int t_finding])), (q_t_next, .inl (cZ, 240, .inl w_t_next)), (q_t_lengths, .inl (cI, 241, .inl w_t_lengths)), (q_t_riggings, .inl (cI, 241, .inl w_t_riggings))] H locs → lv_has ls 3 [(0, .ref q_t), (1, .int x1)] → L_X7_makes_4 N K n x1 w_t_many w_t_next w_t_lengths w_t_riggings = some (r, o_t_many, o_t_next, o_t_lengths, o_t_riggings) → W p l e ({ frames := 2, cells := 0, slots := 0, locals := 49 } : Room) s m ([.ref q_t] : List Value).toArray below meth c H locs 0 0 (MQ below (QcI D [(q_t, .inr (7, [.ref q_t_boxes, .ref q_t_next, .int t_done, .ref q_t_left, .ref q_t_pairs, .int o_t_many, .ref q_t_lengths, .ref q_t_riggings, .int t_told, .ref q_t_toldLength, .ref q_t_toldRigging, .ref q_t_toldRoom, .int t_ringN, .ref q_t_ring, .ref q_t_was, .ref q_t_saved, .ref q_t_isThere, .ref q_t_forms, .ref q_t_sizes, .ref q_t_items, .ref q_t_moved, .int t_finding])), (q_t_next, .inl (cZ, 240, .inl o_t_next)), (q_t_lengths, .inl (cI, 241, .inl o_t_lengths)), (q_t_riggings, .inl (cI, 241, .inl o_t_riggings))] A r) ([.ref q_t] : List Value).toArray s 0 0 A) (F0 m 4 ls []) := by
    intro  K hKx n
    induction n with
    | zero =>
      intro x1 w_t_many w_t_next w_t_lengths w_t_riggings H locs ls hw hl hf
      rw [L_X7_makes_4] at hf
      cases hf
    | succ n ih =>
      intro x1 w_t_many w_t_next w_t_lengths w_t_riggings H locs ls hw hl hf
      rw [L_X7_makes_4] at hf
      refine lv_iload_n hx hb dX7_makes_4 rfl (lv_at hl 1 rfl) ?_
      refine lv_if_lt (tgt := 88) hx hb dX7_makes_5 (by decide) (fun c1 => ?_) (fun c1 => ?_)
      · have hf := (if_pos c1).symm.trans hf
        exact hKx w_t_many w_t_next w_t_lengths w_t_riggings _ _ _ hw (lv_sub hl [0] rfl) hf
      · have hf := (if_neg c1).symm.trans hf
        refine lv_aload_n hx hb dX7_makes_8 rfl (lv_at hl 0 rfl) ?_
        refine lv_iload_n hx hb dX7_makes_9 rfl (lv_at hl 1 rfl) ?_
        refine lv_iconst (v := (1 : Int32)) hx hb dX7_makes_10 (by decide) ?_
        refine lv_iadd hx hb dX7_makes_11 ?_
        refine lv_iconst (v := (0 : Int32)) hx hb dX7_makes_12 (by decide) ?_
        obtain ⟨r2, h3, hf⟩ := bd1_some hf
        refine cl_i (wr := [(q_t_next, .inl (cZ, 240, .inl w_t_next))]) (ws' := [(q_t, .inr (7, [.ref q_t_boxes, .ref q_t_next, .int t_done, .ref q_t_left, .ref q_t_pairs, .int w_t_many, .ref q_t_lengths, .ref q_t_riggings, .int t_told, .ref q_t_toldLength, .ref q_t_toldRigging, .ref q_t_toldRoom, .int t_ringN, .ref q_t_ring, .ref q_t_was, .ref q_t_saved, .ref q_t_isThere, .ref q_t_forms, .ref q_t_sizes, .ref q_t_items, .ref q_t_moved, .int t_finding])), (q_t_next, .inl (cZ, 240, .inl w_t_next)), (q_t_lengths, .inl (cI, 241, .inl w_t_lengths)), (q_t_riggings, .inl (cI, 241, .inl w_t_riggings))]) hA hw [0, 2, 3] [1] [1, 0, 2, 3] rfl rfl rfl (by decide) rfl rfl (va_runV (As := [.int (x1 + (1 : Int32)), .int (0 : Int32)]) (rest := []) S (c_X7_tight l D cI cZ cJ cO _ q_t q_t_boxes q_t_next q_t_left q_t_pairs q_t_lengths q_t_riggings q_t_toldLength q_t_toldRigging q_t_toldRoom q_t_ring q_t_was q_t_saved q_t_isThere q_t_forms q_t_sizes q_t_items q_t_moved N (x1 + (1 : Int32)) (0 : Int32) t_done w_t_many t_told t_ringN t_finding w_t_lengths w_t_riggings r2 h3) (cwV 2 hts gX7_makes_X7_tight rfl rfl rfl (by decide +kernel) ⟨Nat.le_of_ble_eq_true rfl, Nat.le_of_ble_eq_true rfl⟩) (pre_V hK hN hw [0, 2, 3] rfl rfl (C := RX7) (T := TX7) (N := 22) (ci := 7) (q0 := 0) rfl rfl) rfl rfl hl.1 rfl (lv_room (Nat.le_of_ble_eq_true rfl)) dX7_makes_13 ⟨Nat.zero_le _, Nat.zero_le _⟩) (fun H locs hw => ?_)
        refine lv_istore_n (lv' := [(2, .int r2), (0, .ref q_t), (1, .int x1)]) hx hb dX7_makes_16 rfl hl (by decide) rfl (fun ls hl => ?_)
        refine lv_aload_n hx hb dX7_makes_17 rfl (lv_at hl 1 rfl) ?_
        refine g_get (ci := 7) (C := RX7) (T := TX7) (N := 22) S hinX7 hK hw 0 1 k13 dX7_makes_18 rfl rfl (by decide) rfl ?_
        refine lv_iload_n hx hb dX7_makes_21 rfl (lv_at hl 2 rfl) ?_
        refine lv_iload_n hx hb dX7_makes_22 rfl (lv_at hl 0 rfl) ?_
        refine lv_iconst (v := (-1 : Int32)) hx hb dX7_makes_23 (by decide) ?_
        refine lv_icmp_eq (tgt := 31) hx hb dX7_makes_24 (by decide) (fun c4 => ?_) (fun c4 => ?_)
        · have hf := (if_pos c4).symm.trans hf
          refine lv_iconst (v := (0 : Int32)) hx hb dX7_makes_31 (by decide) ?_
          obtain ⟨b5, hf⟩ := ck_some hf
          refine g_zast (ws' := [(q_t, .inr (7, [.ref q_t_boxes, .ref q_t_next, .int t_done, .ref q_t_left, .ref q_t_pairs, .int w_t_many, .ref q_t_lengths, .ref q_t_riggings, .int t_told, .ref q_t_toldLength, .ref q_t_toldRigging, .ref q_t_toldRoom, .int t_ringN, .ref q_t_ring, .ref q_t_was, .ref q_t_saved, .ref q_t_isThere, .ref q_t_forms, .ref q_t_sizes, .ref q_t_items, .ref q_t_moved, .int t_finding])), (q_t_next, .inl (cZ, 240, .inl (upd w_t_next x1.toNatClampNeg (vp_nar .boolean (0 : Int32))))), (q_t_lengths, .inl (cI, 241, .inl w_t_lengths)), (q_t_riggings, .inl (cI, 241, .inl w_t_riggings))]) S hK hw 1 1 b5 dX7_makes_32 rfl rfl rfl (fun H locs hw => ?_)
          refine lv_iload_n hx hb dX7_makes_33 rfl (lv_at hl 0 rfl) ?_
          refine lv_iconst (v := (-1 : Int32)) hx hb dX7_makes_34 (by decide) ?_
          refine lv_icmp_eq (tgt := 82) hx hb dX7_makes_35 (by decide) (fun c6 => ?_) (fun c6 => ?_)
          · have hf := (if_pos c6).symm.trans hf
            refine lv_iinc (v := (x1 + (-1 : Int32))) (lv' := [(1, .int (x1 + (-1 : Int32))), (2, .int r2), (0, .ref q_t)]) hx hb dX7_makes_82 hl (k := 2) rfl rfl (by decide) rfl (fun ls hl => ?_)
            refine lv_goto (tgt := 4) hx hb dX7_makes_85 (by decide) ?_
            exact ih (x1 + (-1 : Int32)) w_t_many (upd w_t_next x1.toNatClampNeg (vp_nar .boolean (0 : Int32))) w_t_lengths w_t_riggings _ _ _ hw (lv_sub hl [2, 0] rfl) hf
          · have hf := (if_neg c6).symm.trans hf
            refine lv_aload_n hx hb dX7_makes_38 rfl (lv_at hl 1 rfl) ?_
            refine g_get (ci := 7) (C := RX7) (T := TX7) (N := 22) S hinX7 hK hw 0 6 k23 dX7_makes_39 rfl rfl (by decide) rfl ?_
            refine lv_iload_n hx hb dX7_makes_42 rfl (lv_at hl 0 rfl) ?_
            refine lv_dup2_11 hx hb dX7_makes_43 rfl rfl ?_
            obtain ⟨b7, hf⟩ := ck_some hf
            refine g_iald S hK hw 2 0 b7 dX7_makes_44 rfl rfl ?_
            refine lv_iconst (v := (1 : Int32)) hx hb dX7_makes_45 (by decide) ?_
            refine lv_isub hx hb dX7_makes_46 ?_
            obtain ⟨b8, hf⟩ := ck_some hf
            refine g_iast (ws' := [(q_t, .inr (7, [.ref q_t_boxes, .ref q_t_next, .int t_done, .ref q_t_left, .ref q_t_pairs, .int w_t_many, .ref q_t_lengths, .ref q_t_riggings, .int t_told, .ref q_t_toldLength, .ref q_t_toldRigging, .ref q_t_toldRoom, .int t_ringN, .ref q_t_ring, .ref q_t_was, .ref q_t_saved, .ref q_t_isThere, .ref q_t_forms, .ref q_t_sizes, .ref q_t_items, .ref q_t_moved, .int t_finding])), (q_t_next, .inl (cZ, 240, .inl (upd w_t_next x1.toNatClampNeg (vp_nar .boolean (0 : Int32))))), (q_t_lengths, .inl (cI, 241, .inl (upd w_t_lengths r2.toNatClampNeg ((w_t_lengths r2.toNatClampNeg) - (1 : Int32))))), (q_t_riggings, .inl (cI, 241, .inl w_t_riggings))]) S hK hw 2 0 b8 dX7_makes_47 rfl rfl rfl (fun H locs hw => ?_)
            refine lv_aload_n hx hb dX7_makes_48 rfl (lv_at hl 1 rfl) ?_
            refine g_get (ci := 7) (C := RX7) (T := TX7) (N := 22) S hinX7 hK hw 0 6 k23 dX7_makes_49 rfl rfl (by decide) rfl ?_
            refine lv_iload_n hx hb dX7_makes_52 rfl (lv_at hl 0 rfl) ?_
            obtain ⟨b9, hf⟩ := ck_some hf
            refine g_iald S hK hw 2 0 b9 dX7_makes_53 rfl rfl ?_
            refine lv_if_ne (tgt := 65) hx hb dX7_makes_54 (by decide) (fun c10 => ?_) (fun c10 => ?_)
            · have hf := (if_neg c10).symm.trans hf
              refine lv_aload_n hx hb dX7_makes_65 rfl (lv_at hl 1 rfl) ?_
              refine g_get (ci := 7) (C := RX7) (T := TX7) (N := 22) S hinX7 hK hw 0 7 k26 dX7_makes_66 rfl rfl (by decide) rfl ?_
              refine lv_iload_n hx hb dX7_makes_69 rfl (lv_at hl 0 rfl) ?_
              refine lv_aload_n hx hb dX7_makes_70 rfl (lv_at hl 1 rfl) ?_
              refine lv_aload_n hx hb dX7_makes_71 rfl (lv_at hl 1 rfl) ?_
              refine g_get (ci := 7) (C := RX7) (T := TX7) (N := 22) S hinX7 hK hw 0 6 k23 dX7_makes_72 rfl rfl (by decide) rfl ?_
              refine lv_iload_n hx hb dX7_makes_75 rfl (lv_at hl 0 rfl) ?_
              obtain ⟨b11, hf⟩ := ck_some hf
              refine g_iald S hK hw 2 0 b11 dX7_makes_76 rfl rfl ?_
              refine lv_iload_n hx hb dX7_makes_77 rfl (lv_at hl 2 rfl) ?_
              obtain ⟨r12, h13, hf⟩ := bd1_some hf
              refine cl_i (wr := [(q_t_next, .inl (cZ, 240, .inl (upd w_t_next x1.toNatClampNeg (vp_nar .boolean (0 : Int32))))), (q_t_riggings, .inl (cI, 241, .inl w_t_riggings))]) (ws' := [(q_t, .inr (7, [.ref q_t_boxes, .ref q_t_next, .int t_done, .ref q_t_left, .ref q_t_pairs, .int w_t_many, .ref q_t_lengths, .ref q_t_riggings, .int t_told, .ref q_t_toldLength, .ref q_t_toldRigging, .ref q_t_toldRoom, .int t_ringN, .ref q_t_ring, .ref q_t_was, .ref q_t_saved, .ref q_t_isThere, .ref q_t_forms, .ref q_t_sizes, .ref q_t_items, .ref q_t_moved, .int t_finding])), (q_t_next, .inl (cZ, 240, .inl (upd w_t_next x1.toNatClampNeg (vp_nar .boolean (0 : Int32))))), (q_t_lengths, .inl (cI, 241, .inl (upd w_t_lengths r2.toNatClampNeg ((w_t_lengths r2.toNatClampNeg) - (1 : Int32))))), (q_t_riggings, .inl (cI, 241, .inl w_t_riggings))]) hA hw [0, 2] [1, 3] [2, 0, 3, 1] rfl rfl rfl (by decide) rfl rfl (va_runV (As := [.int ((upd w_t_lengths r2.toNatClampNeg ((w_t_lengths r2.toNatClampNeg) - (1 : Int32))) r2.toNatClampNeg), .int x1]) (rest := [.int r2, .ref q_t_riggings]) S (c_X7_room l D cI cZ cJ cO _ q_t q_t_boxes q_t_next q_t_left q_t_pairs q_t_lengths q_t_riggings q_t_toldLength q_t_toldRigging q_t_toldRoom q_t_ring q_t_was q_t_saved q_t_isThere q_t_forms q_t_sizes q_t_items q_t_moved N ((upd w_t_lengths r2.toNatClampNeg ((w_t_lengths r2.toNatClampNeg) - (1 : Int32))) r2.toNatClampNeg) x1 t_done w_t_many t_told t_ringN t_finding (upd w_t_lengths r2.toNatClampNeg ((w_t_lengths r2.toNatClampNeg) - (1 : Int32))) r12 h13) (cwV 2 hts gX7_makes_X7_room rfl rfl rfl (by decide +kernel) ⟨Nat.le_of_ble_eq_true rfl, Nat.le_of_ble_eq_true rfl⟩) (pre_V hK hN hw [0, 2] rfl rfl (C := RX7) (T := TX7) (N := 22) (ci := 7) (q0 := 0) rfl rfl) rfl rfl hl.1 rfl (lv_room (Nat.le_of_ble_eq_true rfl)) dX7_makes_78 ⟨Nat.zero_le _, Nat.zero_le _⟩) (fun H locs hw => ?_)
              obtain ⟨b14, hf⟩ := ck_some hf
              refine g_iast (ws' := [(q_t, .inr (7, [.ref q_t_boxes, .ref q_t_next, .int t_done, .ref q_t_left, .ref q_t_pairs, .int w_t_many, .ref q_t_lengths, .ref q_t_riggings, .int t_told, .ref q_t_toldLength, .ref q_t_toldRigging, .ref q_t_toldRoom, .int t_ringN, .ref q_t_ring, .ref q_t_was, .ref q_t_saved, .ref q_t_isThere, .ref q_t_forms, .ref q_t_sizes, .ref q_t_items, .ref q_t_moved, .int t_finding])), (q_t_next, .inl (cZ, 240, .inl (upd w_t_next x1.toNatClampNeg (vp_nar .boolean (0 : Int32))))), (q_t_lengths, .inl (cI, 241, .inl (upd w_t_lengths r2.toNatClampNeg ((w_t_lengths r2.toNatClampNeg) - (1 : Int32))))), (q_t_riggings, .inl (cI, 241, .inl (upd w_t_riggings r2.toNatClampNeg r12)))]) S hK hw 3 0 b14 dX7_makes_81 rfl rfl rfl (fun H locs hw => ?_)
              refine lv_iinc (v := (x1 + (-1 : Int32))) (lv' := [(1, .int (x1 + (-1 : Int32))), (2, .int r2), (0, .ref q_t)]) hx hb dX7_makes_82 hl (k := 2) rfl rfl (by decide) rfl (fun ls hl => ?_)
              refine lv_goto (tgt := 4) hx hb dX7_makes_85 (by decide) ?_
              exact ih (x1 + (-1 : Int32)) w_t_many (upd w_t_next x1.toNatClampNeg (vp_nar .boolean (0 : Int32))) (upd w_t_lengths r2.toNatClampNeg ((w_t_lengths r2.toNatClampNeg) - (1 : Int32))) (upd w_t_riggings r2.toNatClampNeg r12) _ _ _ hw (lv_sub hl [2, 0] rfl) hf
            · have hf := (if_pos c10).symm.trans hf
              refine lv_aload_n hx hb dX7_makes_57 rfl (lv_at hl 1 rfl) ?_
              refine lv_iload_n hx hb dX7_makes_58 rfl (lv_at hl 0 rfl) ?_
              obtain ⟨u15, u16, u17, h18, hf⟩ := bd3_some hf
              refine cl_v (wr := [(q_t_next, .inl (cZ, 240, .inl (upd w_t_next x1.toNatClampNeg (vp_nar .boolean (0 : Int32)))))]) (ws' := [(q_t, .inr (7, [.ref q_t_boxes, .ref q_t_next, .int t_done, .ref q_t_left, .ref q_t_pairs, .int u15, .ref q_t_lengths, .ref q_t_riggings, .int t_told, .ref q_t_toldLength, .ref q_t_toldRigging, .ref q_t_toldRoom, .int t_ringN, .ref q_t_ring, .ref q_t_was, .ref q_t_saved, .ref q_t_isThere, .ref q_t_forms, .ref q_t_sizes, .ref q_t_items, .ref q_t_moved, .int t_finding])), (q_t_next, .inl (cZ, 240, .inl (upd w_t_next x1.toNatClampNeg (vp_nar .boolean (0 : Int32))))), (q_t_lengths, .inl (cI, 241, .inl u16)), (q_t_riggings, .inl (cI, 241, .inl u17))]) hA hw [0, 2, 3] [1] [1, 0, 2, 3] rfl rfl rfl (by decide) rfl rfl (va_runV (As := [.int r2]) (rest := []) S (c_X7_drops l D cI cZ cJ cO _ q_t q_t_boxes q_t_next q_t_left q_t_pairs q_t_lengths q_t_riggings q_t_toldLength q_t_toldRigging q_t_toldRoom q_t_ring q_t_was q_t_saved q_t_isThere q_t_forms q_t_sizes q_t_items q_t_moved N r2 t_done w_t_many t_told t_ringN t_finding (upd w_t_lengths r2.toNatClampNeg ((w_t_lengths r2.toNatClampNeg) - (1 : Int32))) w_t_riggings u15 u16 u17 h18) (cwV 1 hts gX7_makes_X7_drops rfl rfl rfl (by decide +kernel) ⟨Nat.le_of_ble_eq_true rfl, Nat.le_of_ble_eq_true rfl⟩) (pre_V hK hN hw [0, 2, 3] rfl rfl (C := RX7) (T := TX7) (N := 22) (ci := 7) (q0 := 0) rfl rfl) rfl rfl hl.1 rfl (lv_room (Nat.le_of_ble_eq_true rfl)) dX7_makes_59 ⟨Nat.zero_le _, Nat.zero_le _⟩) (fun H locs hw => ?_)
              refine lv_goto (tgt := 82) hx hb dX7_makes_62 (by decide) ?_
              refine lv_iinc (v := (x1 + (-1 : Int32))) (lv' := [(1, .int (x1 + (-1 : Int32))), (2, .int r2), (0, .ref q_t)]) hx hb dX7_makes_82 hl (k := 2) rfl rfl (by decide) rfl (fun ls hl => ?_)
              refine lv_goto (tgt := 4) hx hb dX7_makes_85 (by decide) ?_
              exact ih (x1 + (-1 : Int32)) u15 (upd w_t_next x1.toNatClampNeg (vp_nar .boolean (0 : Int32))) u16 u17 _ _ _ hw (lv_sub hl [2, 0] rfl) hf
        · have hf := (if_neg c4).symm.trans hf
          refine lv_iconst (v := (1 : Int32)) hx hb dX7_makes_27 (by decide) ?_
          refine lv_goto (tgt := 32) hx hb dX7_makes_28 (by decide) ?_
          obtain ⟨b19, hf⟩ := ck_some hf
          refine g_zast (ws' := [(q_t, .inr (7, [.ref q_t_boxes, .ref q_t_next, .int t_done, .ref q_t_left, .ref q_t_pairs, .int w_t_many, .ref q_t_lengths, .ref q_t_riggings, .int t_told, .ref q_t_toldLength, .ref q_t_toldRigging, .ref q_t_toldRoom, .int t_ringN, .ref q_t_ring, .ref q_t_was, .ref q_t_saved, .ref q_t_isThere, .ref q_t_forms, .ref q_t_sizes, .ref q_t_items, .ref q_t_moved, .int t_finding])), (q_t_next, .inl (cZ, 240, .inl (upd w_t_next x1.toNatClampNeg (vp_nar .boolean (1 : Int32))))), (q_t_lengths, .inl (cI, 241, .inl w_t_lengths)), (q_t_riggings, .inl (cI, 241, .inl w_t_riggings))]) S hK hw 1 1 b19 dX7_makes_32 rfl rfl rfl (fun H locs hw => ?_)
          refine lv_iload_n hx hb dX7_makes_33 rfl (lv_at hl 0 rfl) ?_
          refine lv_iconst (v := (-1 : Int32)) hx hb dX7_makes_34 (by decide) ?_
          refine lv_icmp_eq (tgt := 82) hx hb dX7_makes_35 (by decide) (fun c20 => ?_) (fun c20 => ?_)
          · have hf := (if_pos c20).symm.trans hf
            refine lv_iinc (v := (x1 + (-1 : Int32))) (lv' := [(1, .int (x1 + (-1 : Int32))), (2, .int r2), (0, .ref q_t)]) hx hb dX7_makes_82 hl (k := 2) rfl rfl (by decide) rfl (fun ls hl => ?_)
            refine lv_goto (tgt := 4) hx hb dX7_makes_85 (by decide) ?_
            exact ih (x1 + (-1 : Int32)) w_t_many (upd w_t_next x1.toNatClampNeg (vp_nar .boolean (1 : Int32))) w_t_lengths w_t_riggings _ _ _ hw (lv_sub hl [2, 0] rfl) hf
          · have hf := (if_neg c20).symm.trans hf
            refine lv_aload_n hx hb dX7_makes_38 rfl (lv_at hl 1 rfl) ?_
            refine g_get (ci := 7) (C := RX7) (T := TX7) (N := 22) S hinX7 hK hw 0 6 k23 dX7_makes_39 rfl rfl (by decide) rfl ?_
            refine lv_iload_n hx hb dX7_makes_42 rfl (lv_at hl 0 rfl) ?_
            refine lv_dup2_11 hx hb dX7_makes_43 rfl rfl ?_
            obtain ⟨b21, hf⟩ := ck_some hf
            refine g_iald S hK hw 2 0 b21 dX7_makes_44 rfl rfl ?_
            refine lv_iconst (v := (1 : Int32)) hx hb dX7_makes_45 (by decide) ?_
            refine lv_isub hx hb dX7_makes_46 ?_
            obtain ⟨b22, hf⟩ := ck_some hf
            refine g_iast (ws' := [(q_t, .inr (7, [.ref q_t_boxes, .ref q_t_next, .int t_done, .ref q_t_left, .ref q_t_pairs, .int w_t_many, .ref q_t_lengths, .ref q_t_riggings, .int t_told, .ref q_t_toldLength, .ref q_t_toldRigging, .ref q_t_toldRoom, .int t_ringN, .ref q_t_ring, .ref q_t_was, .ref q_t_saved, .ref q_t_isThere, .ref q_t_forms, .ref q_t_sizes, .ref q_t_items, .ref q_t_moved, .int t_finding])), (q_t_next, .inl (cZ, 240, .inl (upd w_t_next x1.toNatClampNeg (vp_nar .boolean (1 : Int32))))), (q_t_lengths, .inl (cI, 241, .inl (upd w_t_lengths r2.toNatClampNeg ((w_t_lengths r2.toNatClampNeg) - (1 : Int32))))), (q_t_riggings, .inl (cI, 241, .inl w_t_riggings))]) S hK hw 2 0 b22 dX7_makes_47 rfl rfl rfl (fun H locs hw => ?_)
            refine lv_aload_n hx hb dX7_makes_48 rfl (lv_at hl 1 rfl) ?_
            refine g_get (ci := 7) (C := RX7) (T := TX7) (N := 22) S hinX7 hK hw 0 6 k23 dX7_makes_49 rfl rfl (by decide) rfl ?_
            refine lv_iload_n hx hb dX7_makes_52 rfl (lv_at hl 0 rfl) ?_
            obtain ⟨b23, hf⟩ := ck_some hf
            refine g_iald S hK hw 2 0 b23 dX7_makes_53 rfl rfl ?_
            refine lv_if_ne (tgt := 65) hx hb dX7_makes_54 (by decide) (fun c24 => ?_) (fun c24 => ?_)
            · have hf := (if_neg c24).symm.trans hf
              refine lv_aload_n hx hb dX7_makes_65 rfl (lv_at hl 1 rfl) ?_
              refine g_get (ci := 7) (C := RX7) (T := TX7) (N := 22) S hinX7 hK hw 0 7 k26 dX7_makes_66 rfl rfl (by decide) rfl ?_
              refine lv_iload_n hx hb dX7_makes_69 rfl (lv_at hl 0 rfl) ?_
              refine lv_aload_n hx hb dX7_makes_70 rfl (lv_at hl 1 rfl) ?_
              refine lv_aload_n hx hb dX7_makes_71 rfl (lv_at hl 1 rfl) ?_
              refine g_get (ci := 7) (C := RX7) (T := TX7) (N := 22) S hinX7 hK hw 0 6 k23 dX7_makes_72 rfl rfl (by decide) rfl ?_
              refine lv_iload_n hx hb dX7_makes_75 rfl (lv_at hl 0 rfl) ?_
              obtain ⟨b25, hf⟩ := ck_some hf
              refine g_iald S hK hw 2 0 b25 dX7_makes_76 rfl rfl ?_
              refine lv_iload_n hx hb dX7_makes_77 rfl (lv_at hl 2 rfl) ?_
              obtain ⟨r26, h27, hf⟩ := bd1_some hf
              refine cl_i (wr := [(q_t_next, .inl (cZ, 240, .inl (upd w_t_next x1.toNatClampNeg (vp_nar .boolean (1 : Int32))))), (q_t_riggings, .inl (cI, 241, .inl w_t_riggings))]) (ws' := [(q_t, .inr (7, [.ref q_t_boxes, .ref q_t_next, .int t_done, .ref q_t_left, .ref q_t_pairs, .int w_t_many, .ref q_t_lengths, .ref q_t_riggings, .int t_told, .ref q_t_toldLength, .ref q_t_toldRigging, .ref q_t_toldRoom, .int t_ringN, .ref q_t_ring, .ref q_t_was, .ref q_t_saved, .ref q_t_isThere, .ref q_t_forms, .ref q_t_sizes, .ref q_t_items, .ref q_t_moved, .int t_finding])), (q_t_next, .inl (cZ, 240, .inl (upd w_t_next x1.toNatClampNeg (vp_nar .boolean (1 : Int32))))), (q_t_lengths, .inl (cI, 241, .inl (upd w_t_lengths r2.toNatClampNeg ((w_t_lengths r2.toNatClampNeg) - (1 : Int32))))), (q_t_riggings, .inl (cI, 241, .inl w_t_riggings))]) hA hw [0, 2] [1, 3] [2, 0, 3, 1] rfl rfl rfl (by decide) rfl rfl (va_runV (As := [.int ((upd w_t_lengths r2.toNatClampNeg ((w_t_lengths r2.toNatClampNeg) - (1 : Int32))) r2.toNatClampNeg), .int x1]) (rest := [.int r2, .ref q_t_riggings]) S (c_X7_room l D cI cZ cJ cO _ q_t q_t_boxes q_t_next q_t_left q_t_pairs q_t_lengths q_t_riggings q_t_toldLength q_t_toldRigging q_t_toldRoom q_t_ring q_t_was q_t_saved q_t_isThere q_t_forms q_t_sizes q_t_items q_t_moved N ((upd w_t_lengths r2.toNatClampNeg ((w_t_lengths r2.toNatClampNeg) - (1 : Int32))) r2.toNatClampNeg) x1 t_done w_t_many t_told t_ringN t_finding (upd w_t_lengths r2.toNatClampNeg ((w_t_lengths r2.toNatClampNeg) - (1 : Int32))) r26 h27) (cwV 2 hts gX7_makes_X7_room rfl rfl rfl (by decide +kernel) ⟨Nat.le_of_ble_eq_true rfl, Nat.le_of_ble_eq_true rfl⟩) (pre_V hK hN hw [0, 2] rfl rfl (C := RX7) (T := TX7) (N := 22) (ci := 7) (q0 := 0) rfl rfl) rfl rfl hl.1 rfl (lv_room (Nat.le_of_ble_eq_true rfl)) dX7_makes_78 ⟨Nat.zero_le _, Nat.zero_le _⟩) (fun H locs hw => ?_)
              obtain ⟨b28, hf⟩ := ck_some hf
              refine g_iast (ws' := [(q_t, .inr (7, [.ref q_t_boxes, .ref q_t_next, .int t_done, .ref q_t_left, .ref q_t_pairs, .int w_t_many, .ref q_t_lengths, .ref q_t_riggings, .int t_told, .ref q_t_toldLength, .ref q_t_toldRigging, .ref q_t_toldRoom, .int t_ringN, .ref q_t_ring, .ref q_t_was, .ref q_t_saved, .ref q_t_isThere, .ref q_t_forms, .ref q_t_sizes, .ref q_t_items, .ref q_t_moved, .int t_finding])), (q_t_next, .inl (cZ, 240, .inl (upd w_t_next x1.toNatClampNeg (vp_nar .boolean (1 : Int32))))), (q_t_lengths, .inl (cI, 241, .inl (upd w_t_lengths r2.toNatClampNeg ((w_t_lengths r2.toNatClampNeg) - (1 : Int32))))), (q_t_riggings, .inl (cI, 241, .inl (upd w_t_riggings r2.toNatClampNeg r26)))]) S hK hw 3 0 b28 dX7_makes_81 rfl rfl rfl (fun H locs hw => ?_)
              refine lv_iinc (v := (x1 + (-1 : Int32))) (lv' := [(1, .int (x1 + (-1 : Int32))), (2, .int r2), (0, .ref q_t)]) hx hb dX7_makes_82 hl (k := 2) rfl rfl (by decide) rfl (fun ls hl => ?_)
              refine lv_goto (tgt := 4) hx hb dX7_makes_85 (by decide) ?_
              exact ih (x1 + (-1 : Int32)) w_t_many (upd w_t_next x1.toNatClampNeg (vp_nar .boolean (1 : Int32))) (upd w_t_lengths r2.toNatClampNeg ((w_t_lengths r2.toNatClampNeg) - (1 : Int32))) (upd w_t_riggings r2.toNatClampNeg r26) _ _ _ hw (lv_sub hl [2, 0] rfl) hf
            · have hf := (if_pos c24).symm.trans hf
              refine lv_aload_n hx hb dX7_makes_57 rfl (lv_at hl 1 rfl) ?_
              refine lv_iload_n hx hb dX7_makes_58 rfl (lv_at hl 0 rfl) ?_
              obtain ⟨u29, u30, u31, h32, hf⟩ := bd3_some hf
              refine cl_v (wr := [(q_t_next, .inl (cZ, 240, .inl (upd w_t_next x1.toNatClampNeg (vp_nar .boolean (1 : Int32)))))]) (ws' := [(q_t, .inr (7, [.ref q_t_boxes, .ref q_t_next, .int t_done, .ref q_t_left, .ref q_t_pairs, .int u29, .ref q_t_lengths, .ref q_t_riggings, .int t_told, .ref q_t_toldLength, .ref q_t_toldRigging, .ref q_t_toldRoom, .int t_ringN, .ref q_t_ring, .ref q_t_was, .ref q_t_saved, .ref q_t_isThere, .ref q_t_forms, .ref q_t_sizes, .ref q_t_items, .ref q_t_moved, .int t_finding])), (q_t_next, .inl (cZ, 240, .inl (upd w_t_next x1.toNatClampNeg (vp_nar .boolean (1 : Int32))))), (q_t_lengths, .inl (cI, 241, .inl u30)), (q_t_riggings, .inl (cI, 241, .inl u31))]) hA hw [0, 2, 3] [1] [1, 0, 2, 3] rfl rfl rfl (by decide) rfl rfl (va_runV (As := [.int r2]) (rest := []) S (c_X7_drops l D cI cZ cJ cO _ q_t q_t_boxes q_t_next q_t_left q_t_pairs q_t_lengths q_t_riggings q_t_toldLength q_t_toldRigging q_t_toldRoom q_t_ring q_t_was q_t_saved q_t_isThere q_t_forms q_t_sizes q_t_items q_t_moved N r2 t_done w_t_many t_told t_ringN t_finding (upd w_t_lengths r2.toNatClampNeg ((w_t_lengths r2.toNatClampNeg) - (1 : Int32))) w_t_riggings u29 u30 u31 h32) (cwV 1 hts gX7_makes_X7_drops rfl rfl rfl (by decide +kernel) ⟨Nat.le_of_ble_eq_true rfl, Nat.le_of_ble_eq_true rfl⟩) (pre_V hK hN hw [0, 2, 3] rfl rfl (C := RX7) (T := TX7) (N := 22) (ci := 7) (q0 := 0) rfl rfl) rfl rfl hl.1 rfl (lv_room (Nat.le_of_ble_eq_true rfl)) dX7_makes_59 ⟨Nat.zero_le _, Nat.zero_le _⟩) (fun H locs hw => ?_)
              refine lv_goto (tgt := 82) hx hb dX7_makes_62 (by decide) ?_
              refine lv_iinc (v := (x1 + (-1 : Int32))) (lv' := [(1, .int (x1 + (-1 : Int32))), (2, .int r2), (0, .ref q_t)]) hx hb dX7_makes_82 hl (k := 2) rfl rfl (by decide) rfl (fun ls hl => ?_)
              refine lv_goto (tgt := 4) hx hb dX7_makes_85 (by decide) ?_
              exact ih (x1 + (-1 : Int32)) u29 (upd w_t_next x1.toNatClampNeg (vp_nar .boolean (1 : Int32))) u30 u31 _ _ _ hw (lv_sub hl [2, 0] rfl) hf
  unfold f_X7_makes at hf
  refine lv_sipush (v := (239 : Int32)) hx hb dX7_makes_0 (by decide) ?_
  refine lv_istore_n (lv' := [(1, .int (239 : Int32)), (0, .ref q_t)]) hx hb dX7_makes_3 rfl hl (by decide) rfl (fun ls hl => ?_)
  refine Lp4  _ (fun u33 u34 u35 u36 H locs ls hw hl hf => ?_) N (239 : Int32) t_many t_next t_lengths t_riggings _ _ _ hw (lv_sub hl [1, 0] rfl) hf
  refine lv_aload_n hx hb dX7_makes_88 rfl (lv_at hl 0 rfl) ?_
  refine g_get (ci := 7) (C := RX7) (T := TX7) (N := 22) S hinX7 hK hw 0 5 k87 dX7_makes_89 rfl rfl (by decide) rfl ?_
  refine lv_if_ne (tgt := 99) hx hb dX7_makes_92 (by decide) (fun c37 => ?_) (fun c37 => ?_)
  · have hf := (if_neg c37).symm.trans hf
    refine lv_iconst (v := (0 : Int32)) hx hb dX7_makes_99 (by decide) ?_
    obtain ⟨rfl, rfl, rfl, rfl, rfl⟩ := pr5 (Option.some.inj hf)
    exact rt_z S hr hlk hw dX7_makes_100 rfl
  · have hf := (if_pos c37).symm.trans hf
    refine lv_iconst (v := (1 : Int32)) hx hb dX7_makes_95 (by decide) ?_
    refine lv_goto (tgt := 100) hx hb dX7_makes_96 (by decide) ?_
    obtain ⟨rfl, rfl, rfl, rfl, rfl⟩ := pr5 (Option.some.inj hf)
    exact rt_z S hr hlk hw dX7_makes_100 rfl

def L_X7_strings_39 (N : Nat) (x2 : Int32) (w_t_lengths : (Nat → Int32)) (w_t_riggings : (Nat → Int32)) (K : Int32 → (Nat → Int32) → (Nat → Int32) → Option (Int32 × Int32 × Int32 × (Nat → Int32) × (Nat → Int32) × (Nat → Int32) × (Nat → Int32) × (Nat → Int32))) : Nat → Int32 → (Nat → Int32) → (Nat → Int32) → Option (Int32 × Int32 × Int32 × (Nat → Int32) × (Nat → Int32) × (Nat → Int32) × (Nat → Int32) × (Nat → Int32))
  | 0, _, _, _ => none
  | n + 1, x3, w_t_toldLength, w_t_toldRigging => (if x3 ≤ (0 : Int32) then (K x3 w_t_toldLength w_t_toldRigging) else (ck (inb (x3 - (1 : Int32)) 241) (ck (inb x2 241) (if (w_t_toldLength (x3 - (1 : Int32)).toNatClampNeg) < (w_t_lengths x2.toNatClampNeg) then (ck (inb (x3 - (1 : Int32)) 241) (ck (inb x3 241) (ck (inb (x3 - (1 : Int32)) 241) (ck (inb x3 241) (L_X7_strings_39 N x2 w_t_lengths w_t_riggings K n (x3 + (-1 : Int32)) (upd w_t_toldLength x3.toNatClampNeg (w_t_toldLength (x3 - (1 : Int32)).toNatClampNeg)) (upd w_t_toldRigging x3.toNatClampNeg (w_t_toldRigging (x3 - (1 : Int32)).toNatClampNeg))))))) else (ck (inb (x3 - (1 : Int32)) 241) (ck (inb x2 241) (if (w_t_toldLength (x3 - (1 : Int32)).toNatClampNeg) = (w_t_lengths x2.toNatClampNeg) then (ck (inb (x3 - (1 : Int32)) 241) (ck (inb x2 241) (if (w_t_riggings x2.toNatClampNeg) ≤ (w_t_toldRigging (x3 - (1 : Int32)).toNatClampNeg) then (K x3 w_t_toldLength w_t_toldRigging) else (ck (inb (x3 - (1 : Int32)) 241) (ck (inb x3 241) (ck (inb (x3 - (1 : Int32)) 241) (ck (inb x3 241) (L_X7_strings_39 N x2 w_t_lengths w_t_riggings K n (x3 + (-1 : Int32)) (upd w_t_toldLength x3.toNatClampNeg (w_t_toldLength (x3 - (1 : Int32)).toNatClampNeg)) (upd w_t_toldRigging x3.toNatClampNeg (w_t_toldRigging (x3 - (1 : Int32)).toNatClampNeg)))))))))) else (K x3 w_t_toldLength w_t_toldRigging))))))))

def L_X7_strings_29 (N : Nat) (w_t_many : Int32) (w_t_lengths : (Nat → Int32)) (w_t_riggings : (Nat → Int32)) (K : (Nat → Int32) → (Nat → Int32) → Option (Int32 × Int32 × Int32 × (Nat → Int32) × (Nat → Int32) × (Nat → Int32) × (Nat → Int32) × (Nat → Int32))) : Nat → Int32 → (Nat → Int32) → (Nat → Int32) → Option (Int32 × Int32 × Int32 × (Nat → Int32) × (Nat → Int32) × (Nat → Int32) × (Nat → Int32) × (Nat → Int32))
  | 0, _, _, _ => none
  | n + 1, x2, w_t_toldLength, w_t_toldRigging => (if w_t_many ≤ x2 then (K w_t_toldLength w_t_toldRigging) else (L_X7_strings_39 N x2 w_t_lengths w_t_riggings (fun y27 u28 u29 => (ck (inb x2 241) (ck (inb y27 241) (ck (inb x2 241) (ck (inb y27 241) (L_X7_strings_29 N w_t_many w_t_lengths w_t_riggings K n (x2 + (1 : Int32)) (upd u28 y27.toNatClampNeg (w_t_lengths x2.toNatClampNeg)) (upd u29 y27.toNatClampNeg (w_t_riggings x2.toNatClampNeg)))))))) N x2 w_t_toldLength w_t_toldRigging))

def L_X7_strings_160 (N : Nat) (x1 : Int32) (w_t_many : Int32) (w_t_lengths : (Nat → Int32)) (w_t_toldLength : (Nat → Int32)) (K : (Nat → Int32) → Option (Int32 × Int32 × Int32 × (Nat → Int32) × (Nat → Int32) × (Nat → Int32) × (Nat → Int32) × (Nat → Int32))) : Nat → Int32 → (Nat → Int32) → Option (Int32 × Int32 × Int32 × (Nat → Int32) × (Nat → Int32) × (Nat → Int32) × (Nat → Int32) × (Nat → Int32))
  | 0, _, _ => none
  | n + 1, x2, w_t_toldRoom => (if w_t_many ≤ x2 then (K w_t_toldRoom) else (ck (inb x2 241) (bd1 (f_X7_room N (w_t_toldLength x2.toNatClampNeg) x1 w_t_many w_t_lengths) (fun r38 => (ck (inb x2 241) (L_X7_strings_160 N x1 w_t_many w_t_lengths w_t_toldLength K n (x2 + (1 : Int32)) (upd w_t_toldRoom x2.toNatClampNeg r38)))))))

def f_X7_strings (N : Nat) (p1 : Int32) (t_many : Int32) (t_told : Int32) (t_boxes : (Nat → Int32)) (t_lengths : (Nat → Int32)) (t_riggings : (Nat → Int32)) (t_toldLength : (Nat → Int32)) (t_toldRigging : (Nat → Int32)) (t_toldRoom : (Nat → Int32)) : Option (Int32 × Int32 × Int32 × (Nat → Int32) × (Nat → Int32) × (Nat → Int32) × (Nat → Int32) × (Nat → Int32)) :=
  (bd1 (f_X7_in N p1 (0 : Int32) (240 : Int32)) (fun r1 => (if r1 = (0 : Int32) then (some ((-2 : Int32), t_many, t_told, t_lengths, t_riggings, t_toldLength, t_toldRigging, t_toldRoom)) else (bd3 (f_X7_reads N p1 t_many t_boxes t_lengths t_riggings) (fun u4 u5 u6 => (L_X7_strings_29 N u4 u5 u6 (fun u34 u35 => (L_X7_strings_160 N p1 u4 u5 u34 (fun u41 => (some (u4, u4, u4, u5, u6, u34, u35, u41))) N (0 : Int32) t_toldRoom)) N (0 : Int32) t_toldLength t_toldRigging))))))

set_option maxHeartbeats 4000000 in
set_option maxRecDepth 100000 in
theorem c_X7_strings (l : Launch) (D : va_G) (cI cZ cJ cO : ClassId) (sz : Nat) (q_t q_t_boxes q_t_next q_t_left q_t_pairs q_t_lengths q_t_riggings q_t_toldLength q_t_toldRigging q_t_toldRoom q_t_ring q_t_was q_t_saved q_t_isThere q_t_forms q_t_sizes q_t_items q_t_moved : Nat) (N : Nat) (p1 : Int32) (t_done : Int32) (t_many : Int32) (t_told : Int32) (t_ringN : Int32) (t_finding : Int32) (t_boxes : (Nat → Int32)) (t_lengths : (Nat → Int32)) (t_riggings : (Nat → Int32)) (t_toldLength : (Nat → Int32)) (t_toldRigging : (Nat → Int32)) (t_toldRoom : (Nat → Int32)) (r : Int32) (o_t_many : Int32) (o_t_told : Int32) (o_t_lengths : (Nat → Int32)) (o_t_riggings : (Nat → Int32)) (o_t_toldLength : (Nat → Int32)) (o_t_toldRigging : (Nat → Int32)) (o_t_toldRoom : (Nat → Int32)) (hf : f_X7_strings N p1 t_many t_told t_boxes t_lengths t_riggings t_toldLength t_toldRigging t_toldRoom = some (r, o_t_many, o_t_told, o_t_lengths, o_t_riggings, o_t_toldLength, o_t_toldRigging, o_t_toldRoom)) : Met l yX7_strings wsX7_strings ({ frames := 3, cells := 0, slots := 0, locals := 72 }) (PreC D (TY cI cZ cJ cO) [.ref q_t, .int p1] [(q_t, .inr (7, [.ref q_t_boxes, .ref q_t_next, .int t_done, .ref q_t_left, .ref q_t_pairs, .int t_many, .ref q_t_lengths, .ref q_t_riggings, .int t_told, .ref q_t_toldLength, .ref q_t_toldRigging, .ref q_t_toldRoom, .int t_ringN, .ref q_t_ring, .ref q_t_was, .ref q_t_saved, .ref q_t_isThere, .ref q_t_forms, .ref q_t_sizes, .ref q_t_items, .ref q_t_moved, .int t_finding])), (q_t_boxes, .inl (cZ, 240, .inl t_boxes)), (q_t_lengths, .inl (cI, 241, .inl t_lengths)), (q_t_riggings, .inl (cI, 241, .inl t_riggings)), (q_t_toldLength, .inl (cI, 241, .inl t_toldLength)), (q_t_toldRigging, .inl (cI, 241, .inl t_toldRigging)), (q_t_toldRoom, .inl (cI, 241, .inl t_toldRoom))] sz) (QcI D [(q_t, .inr (7, [.ref q_t_boxes, .ref q_t_next, .int t_done, .ref q_t_left, .ref q_t_pairs, .int o_t_many, .ref q_t_lengths, .ref q_t_riggings, .int o_t_told, .ref q_t_toldLength, .ref q_t_toldRigging, .ref q_t_toldRoom, .int t_ringN, .ref q_t_ring, .ref q_t_was, .ref q_t_saved, .ref q_t_isThere, .ref q_t_forms, .ref q_t_sizes, .ref q_t_items, .ref q_t_moved, .int t_finding])), (q_t_boxes, .inl (cZ, 240, .inl t_boxes)), (q_t_lengths, .inl (cI, 241, .inl o_t_lengths)), (q_t_riggings, .inl (cI, 241, .inl o_t_riggings)), (q_t_toldLength, .inl (cI, 241, .inl o_t_toldLength)), (q_t_toldRigging, .inl (cI, 241, .inl o_t_toldRigging)), (q_t_toldRoom, .inl (cI, 241, .inl o_t_toldRoom))] (va_A [(q_t, .inr (7, [.ref q_t_boxes, .ref q_t_next, .int t_done, .ref q_t_left, .ref q_t_pairs, .int t_many, .ref q_t_lengths, .ref q_t_riggings, .int t_told, .ref q_t_toldLength, .ref q_t_toldRigging, .ref q_t_toldRoom, .int t_ringN, .ref q_t_ring, .ref q_t_was, .ref q_t_saved, .ref q_t_isThere, .ref q_t_forms, .ref q_t_sizes, .ref q_t_items, .ref q_t_moved, .int t_finding])), (q_t_boxes, .inl (cZ, 240, .inl t_boxes)), (q_t_lengths, .inl (cI, 241, .inl t_lengths)), (q_t_riggings, .inl (cI, 241, .inl t_riggings)), (q_t_toldLength, .inl (cI, 241, .inl t_toldLength)), (q_t_toldRigging, .inl (cI, 241, .inl t_toldRigging)), (q_t_toldRoom, .inl (cI, 241, .inl t_toldRoom))] sz) r) 0 0 (va_A [(q_t, .inr (7, [.ref q_t_boxes, .ref q_t_next, .int t_done, .ref q_t_left, .ref q_t_pairs, .int t_many, .ref q_t_lengths, .ref q_t_riggings, .int t_told, .ref q_t_toldLength, .ref q_t_toldRigging, .ref q_t_toldRoom, .int t_ringN, .ref q_t_ring, .ref q_t_was, .ref q_t_saved, .ref q_t_isThere, .ref q_t_forms, .ref q_t_sizes, .ref q_t_items, .ref q_t_moved, .int t_finding])), (q_t_boxes, .inl (cZ, 240, .inl t_boxes)), (q_t_lengths, .inl (cI, 241, .inl t_lengths)), (q_t_riggings, .inl (cI, 241, .inl t_riggings)), (q_t_toldLength, .inl (cI, 241, .inl t_toldLength)), (q_t_toldRigging, .inl (cI, 241, .inl t_toldRigging)), (q_t_toldRoom, .inl (cI, 241, .inl t_toldRoom))] sz) := by
  refine ctr (cc := cX7_strings) (maxL := 4) (ret := (some .int)) (by decide) rfl (Nat.le_of_ble_eq_true rfl) ?_
  intro p e s m below meth c S hr hlk hnm hK hN hsz hA hw ls hl
  generalize va_A [(q_t, .inr (7, [.ref q_t_boxes, .ref q_t_next, .int t_done, .ref q_t_left, .ref q_t_pairs, .int t_many, .ref q_t_lengths, .ref q_t_riggings, .int t_told, .ref q_t_toldLength, .ref q_t_toldRigging, .ref q_t_toldRoom, .int t_ringN, .ref q_t_ring, .ref q_t_was, .ref q_t_saved, .ref q_t_isThere, .ref q_t_forms, .ref q_t_sizes, .ref q_t_items, .ref q_t_moved, .int t_finding])), (q_t_boxes, .inl (cZ, 240, .inl t_boxes)), (q_t_lengths, .inl (cI, 241, .inl t_lengths)), (q_t_riggings, .inl (cI, 241, .inl t_riggings)), (q_t_toldLength, .inl (cI, 241, .inl t_toldLength)), (q_t_toldRigging, .inl (cI, 241, .inl t_toldRigging)), (q_t_toldRoom, .inl (cI, 241, .inl t_toldRoom))] sz = A at hA hw ⊢
  have S : CallFix p m c cX7_strings 4 s ([.ref q_t, .int p1] : List Value).toArray wsX7_strings RX7 := S
  have hx := S.1
  have hb := S.2.1
  have hts := S.2.2.2.2
  have hl : lv_has ls 4 [(0, .ref q_t), (1, .int p1)] := hl
  have hinX7 : ∀ w ∈ u_ws RX7 TX7 22, w ∈ wsX7_strings := by decide +kernel
  have k23 : Cond.fieldLink RX7 23 "BallBoxesModel" "lengths" "[I" ∈ wsX7_strings := by decide +kernel
  have k26 : Cond.fieldLink RX7 26 "BallBoxesModel" "riggings" "[I" ∈ wsX7_strings := by decide +kernel
  have k29 : Cond.fieldLink RX7 29 "BallBoxesModel" "toldLength" "[I" ∈ wsX7_strings := by decide +kernel
  have k32 : Cond.fieldLink RX7 32 "BallBoxesModel" "toldRigging" "[I" ∈ wsX7_strings := by decide +kernel
  have k35 : Cond.fieldLink RX7 35 "BallBoxesModel" "toldRoom" "[I" ∈ wsX7_strings := by decide +kernel
  have k87 : Cond.fieldLink RX7 87 "BallBoxesModel" "many" "I" ∈ wsX7_strings := by decide +kernel
  have k104 : Cond.fieldLink RX7 104 "BallBoxesModel" "told" "I" ∈ wsX7_strings := by decide +kernel
  have Lp39 : ∀ (x1 : Int32) (x2 : Int32) (w_t_many : Int32) (w_t_told : Int32) (w_t_lengths : (Nat → Int32)) (w_t_riggings : (Nat → Int32)) (w_t_toldRoom : (Nat → Int32)) (K : Int32 → (Nat → Int32) → (Nat → Int32) → Option (Int32 × Int32 × Int32 × (Nat → Int32) × (Nat → Int32) × (Nat → Int32) × (Nat → Int32) × (Nat → Int32))), (∀ (z3 : Int32) (z_t_toldLength : (Nat → Int32)) (z_t_toldRigging : (Nat → Int32)) (H : Heap) (locs : List Loc) (ls : Array Slot), Wd D A s.heap [(q_t, .inr (7, [.ref q_t_boxes, .ref q_t_next, .int t_done, .ref q_t_left, .ref q_t_pairs, .int w_t_many, .ref q_t_lengths, .ref q_t_riggings, .int w_t_told, .ref q_t_toldLength, .ref q_t_toldRigging, .ref q_t_toldRoom, .int t_ringN, .ref q_t_ring, .ref q_t_was, .ref q_t_saved, .ref q_t_isThere, .ref q_t_forms, .ref q_t_sizes, .ref q_t_items, .ref q_t_moved, .int t_finding])), (q_t_boxes, .inl (cZ, 240, .inl t_boxes)), (q_t_lengths, .inl (cI, 241, .inl w_t_lengths)), (q_t_riggings, .inl (cI, 241, .inl w_t_riggings)), (q_t_toldLength, .inl (cI, 241, .inl z_t_toldLength)), (q_t_toldRigging, .inl (cI, 241, .inl z_t_toldRigging)), (q_t_toldRoom, .inl (cI, 241, .inl w_t_toldRoom))] H locs → lv_has ls 4 [(0, .ref q_t), (1, .int x1), (2, .int x2), (3, .int z3)] → K z3 z_t_toldLength z_t_toldRigging = some (r, o_t_many, o_t_told, o_t_lengths, o_t_riggings, o_t_toldLength, o_t_toldRigging, o_t_toldRoom) → W p l e ({ frames := 3, cells := 0, slots := 0, locals := 72 } : Room) s m ([.ref q_t, .int p1] : List Value).toArray below meth c H locs 0 0 (MQ below (QcI D [(q_t, .inr (7, [.ref q_t_boxes, .ref q_t_next, .int t_done, .ref q_t_left, .ref q_t_pairs, .int o_t_many, .ref q_t_lengths, .ref q_t_riggings, .int o_t_told, .ref q_t_toldLength, .ref q_t_toldRigging, .ref q_t_toldRoom, .int t_ringN, .ref q_t_ring, .ref q_t_was, .ref q_t_saved, .ref q_t_isThere, .ref q_t_forms, .ref q_t_sizes, .ref q_t_items, .ref q_t_moved, .int t_finding])), (q_t_boxes, .inl (cZ, 240, .inl t_boxes)), (q_t_lengths, .inl (cI, 241, .inl o_t_lengths)), (q_t_riggings, .inl (cI, 241, .inl o_t_riggings)), (q_t_toldLength, .inl (cI, 241, .inl o_t_toldLength)), (q_t_toldRigging, .inl (cI, 241, .inl o_t_toldRigging)), (q_t_toldRoom, .inl (cI, 241, .inl o_t_toldRoom))] A r) ([.ref q_t, .int p1] : List Value).toArray s 0 0 A) (F0 m 128 ls [])) → ∀ (n : Nat) (x3 : Int32) (w_t_toldLength : (Nat → Int32)) (w_t_toldRigging : (Nat → Int32)) (H : Heap) (locs : List Loc) (ls : Array Slot), Wd D A s.heap [(q_t, .inr (7, [.ref q_t_boxes, .ref q_t_next, .int t_done, .ref q_t_left, .ref q_t_pairs, .int w_t_many, .ref q_t_lengths, .ref q_t_riggings, .int w_t_told, .ref q_t_toldLength, .ref q_t_toldRigging, .ref q_t_toldRoom, .int t_ringN, .ref q_t_ring, .ref q_t_was, .ref q_t_saved, .ref q_t_isThere, .ref q_t_forms, .ref q_t_sizes, .ref q_t_items, .ref q_t_moved, .int t_finding])), (q_t_boxes, .inl (cZ, 240, .inl t_boxes)), (q_t_lengths, .inl (cI, 241, .inl w_t_lengths)), (q_t_riggings, .inl (cI, 241, .inl w_t_riggings)), (q_t_toldLength, .inl (cI, 241, .inl w_t_toldLength)), (q_t_toldRigging, .inl (cI, 241, .inl w_t_toldRigging)), (q_t_toldRoom, .inl (cI, 241, .inl w_t_toldRoom))] H locs → lv_has ls 4 [(0, .ref q_t), (1, .int x1), (2, .int x2), (3, .int x3)] → L_X7_strings_39 N x2 w_t_lengths w_t_riggings K n x3 w_t_toldLength w_t_toldRigging = some (r, o_t_many, o_t_told, o_t_lengths, o_t_riggings, o_t_toldLength, o_t_toldRigging, o_t_toldRoom) → W p l e ({ frames := 3, cells := 0, slots := 0, locals := 72 } : Room) s m ([.ref q_t, .int p1] : List Value).toArray below meth c H locs 0 0 (MQ below (QcI D [(q_t, .inr (7, [.ref q_t_boxes, .ref q_t_next, .int t_done, .ref q_t_left, .ref q_t_pairs, .int o_t_many, .ref q_t_lengths, .ref q_t_riggings, .int o_t_told, .ref q_t_toldLength, .ref q_t_toldRigging, .ref q_t_toldRoom, .int t_ringN, .ref q_t_ring, .ref q_t_was, .ref q_t_saved, .ref q_t_isThere, .ref q_t_forms, .ref q_t_sizes, .ref q_t_items, .ref q_t_moved, .int t_finding])), (q_t_boxes, .inl (cZ, 240, .inl t_boxes)), (q_t_lengths, .inl (cI, 241, .inl o_t_lengths)), (q_t_riggings, .inl (cI, 241, .inl o_t_riggings)), (q_t_toldLength, .inl (cI, 241, .inl o_t_toldLength)), (q_t_toldRigging, .inl (cI, 241, .inl o_t_toldRigging)), (q_t_toldRoom, .inl (cI, 241, .inl o_t_toldRoom))] A r) ([.ref q_t, .int p1] : List Value).toArray s 0 0 A) (F0 m 39 ls []) := by
    intro x1 x2 w_t_many w_t_told w_t_lengths w_t_riggings w_t_toldRoom K hKx n
    induction n with
    | zero =>
      intro x3 w_t_toldLength w_t_toldRigging H locs ls hw hl hf
      rw [L_X7_strings_39] at hf
      cases hf
    | succ n ih =>
      intro x3 w_t_toldLength w_t_toldRigging H locs ls hw hl hf
      rw [L_X7_strings_39] at hf
      refine lv_iload_n hx hb dX7_strings_39 rfl (lv_at hl 3 rfl) ?_
      refine lv_if_le (tgt := 128) hx hb dX7_strings_40 (by decide) (fun c9 => ?_) (fun c9 => ?_)
      · have hf := (if_pos c9).symm.trans hf
        exact hKx x3 w_t_toldLength w_t_toldRigging _ _ _ hw (lv_sub hl [0, 1, 2, 3] rfl) hf
      · have hf := (if_neg c9).symm.trans hf
        refine lv_aload_n hx hb dX7_strings_43 rfl (lv_at hl 0 rfl) ?_
        refine g_get (ci := 7) (C := RX7) (T := TX7) (N := 22) S hinX7 hK hw 0 9 k29 dX7_strings_44 rfl rfl (by decide) rfl ?_
        refine lv_iload_n hx hb dX7_strings_47 rfl (lv_at hl 3 rfl) ?_
        refine lv_iconst (v := (1 : Int32)) hx hb dX7_strings_48 (by decide) ?_
        refine lv_isub hx hb dX7_strings_49 ?_
        obtain ⟨b10, hf⟩ := ck_some hf
        refine g_iald S hK hw 4 0 b10 dX7_strings_50 rfl rfl ?_
        refine lv_aload_n hx hb dX7_strings_51 rfl (lv_at hl 0 rfl) ?_
        refine g_get (ci := 7) (C := RX7) (T := TX7) (N := 22) S hinX7 hK hw 0 6 k23 dX7_strings_52 rfl rfl (by decide) rfl ?_
        refine lv_iload_n hx hb dX7_strings_55 rfl (lv_at hl 2 rfl) ?_
        obtain ⟨b11, hf⟩ := ck_some hf
        refine g_iald S hK hw 2 0 b11 dX7_strings_56 rfl rfl ?_
        refine lv_icmp_lt (tgt := 94) hx hb dX7_strings_57 (by decide) (fun c12 => ?_) (fun c12 => ?_)
        · have hf := (if_pos c12).symm.trans hf
          refine lv_aload_n hx hb dX7_strings_94 rfl (lv_at hl 0 rfl) ?_
          refine g_get (ci := 7) (C := RX7) (T := TX7) (N := 22) S hinX7 hK hw 0 9 k29 dX7_strings_95 rfl rfl (by decide) rfl ?_
          refine lv_iload_n hx hb dX7_strings_98 rfl (lv_at hl 3 rfl) ?_
          refine lv_aload_n hx hb dX7_strings_99 rfl (lv_at hl 0 rfl) ?_
          refine g_get (ci := 7) (C := RX7) (T := TX7) (N := 22) S hinX7 hK hw 0 9 k29 dX7_strings_100 rfl rfl (by decide) rfl ?_
          refine lv_iload_n hx hb dX7_strings_103 rfl (lv_at hl 3 rfl) ?_
          refine lv_iconst (v := (1 : Int32)) hx hb dX7_strings_104 (by decide) ?_
          refine lv_isub hx hb dX7_strings_105 ?_
          obtain ⟨b13, hf⟩ := ck_some hf
          refine g_iald S hK hw 4 0 b13 dX7_strings_106 rfl rfl ?_
          obtain ⟨b14, hf⟩ := ck_some hf
          refine g_iast (ws' := [(q_t, .inr (7, [.ref q_t_boxes, .ref q_t_next, .int t_done, .ref q_t_left, .ref q_t_pairs, .int w_t_many, .ref q_t_lengths, .ref q_t_riggings, .int w_t_told, .ref q_t_toldLength, .ref q_t_toldRigging, .ref q_t_toldRoom, .int t_ringN, .ref q_t_ring, .ref q_t_was, .ref q_t_saved, .ref q_t_isThere, .ref q_t_forms, .ref q_t_sizes, .ref q_t_items, .ref q_t_moved, .int t_finding])), (q_t_boxes, .inl (cZ, 240, .inl t_boxes)), (q_t_lengths, .inl (cI, 241, .inl w_t_lengths)), (q_t_riggings, .inl (cI, 241, .inl w_t_riggings)), (q_t_toldLength, .inl (cI, 241, .inl (upd w_t_toldLength x3.toNatClampNeg (w_t_toldLength (x3 - (1 : Int32)).toNatClampNeg)))), (q_t_toldRigging, .inl (cI, 241, .inl w_t_toldRigging)), (q_t_toldRoom, .inl (cI, 241, .inl w_t_toldRoom))]) S hK hw 4 0 b14 dX7_strings_107 rfl rfl rfl (fun H locs hw => ?_)
          refine lv_aload_n hx hb dX7_strings_108 rfl (lv_at hl 0 rfl) ?_
          refine g_get (ci := 7) (C := RX7) (T := TX7) (N := 22) S hinX7 hK hw 0 10 k32 dX7_strings_109 rfl rfl (by decide) rfl ?_
          refine lv_iload_n hx hb dX7_strings_112 rfl (lv_at hl 3 rfl) ?_
          refine lv_aload_n hx hb dX7_strings_113 rfl (lv_at hl 0 rfl) ?_
          refine g_get (ci := 7) (C := RX7) (T := TX7) (N := 22) S hinX7 hK hw 0 10 k32 dX7_strings_114 rfl rfl (by decide) rfl ?_
          refine lv_iload_n hx hb dX7_strings_117 rfl (lv_at hl 3 rfl) ?_
          refine lv_iconst (v := (1 : Int32)) hx hb dX7_strings_118 (by decide) ?_
          refine lv_isub hx hb dX7_strings_119 ?_
          obtain ⟨b15, hf⟩ := ck_some hf
          refine g_iald S hK hw 5 0 b15 dX7_strings_120 rfl rfl ?_
          obtain ⟨b16, hf⟩ := ck_some hf
          refine g_iast (ws' := [(q_t, .inr (7, [.ref q_t_boxes, .ref q_t_next, .int t_done, .ref q_t_left, .ref q_t_pairs, .int w_t_many, .ref q_t_lengths, .ref q_t_riggings, .int w_t_told, .ref q_t_toldLength, .ref q_t_toldRigging, .ref q_t_toldRoom, .int t_ringN, .ref q_t_ring, .ref q_t_was, .ref q_t_saved, .ref q_t_isThere, .ref q_t_forms, .ref q_t_sizes, .ref q_t_items, .ref q_t_moved, .int t_finding])), (q_t_boxes, .inl (cZ, 240, .inl t_boxes)), (q_t_lengths, .inl (cI, 241, .inl w_t_lengths)), (q_t_riggings, .inl (cI, 241, .inl w_t_riggings)), (q_t_toldLength, .inl (cI, 241, .inl (upd w_t_toldLength x3.toNatClampNeg (w_t_toldLength (x3 - (1 : Int32)).toNatClampNeg)))), (q_t_toldRigging, .inl (cI, 241, .inl (upd w_t_toldRigging x3.toNatClampNeg (w_t_toldRigging (x3 - (1 : Int32)).toNatClampNeg)))), (q_t_toldRoom, .inl (cI, 241, .inl w_t_toldRoom))]) S hK hw 5 0 b16 dX7_strings_121 rfl rfl rfl (fun H locs hw => ?_)
          refine lv_iinc (v := (x3 + (-1 : Int32))) (lv' := [(3, .int (x3 + (-1 : Int32))), (0, .ref q_t), (1, .int x1), (2, .int x2)]) hx hb dX7_strings_122 hl (k := 3) rfl rfl (by decide) rfl (fun ls hl => ?_)
          refine lv_goto (tgt := 39) hx hb dX7_strings_125 (by decide) ?_
          exact ih (x3 + (-1 : Int32)) (upd w_t_toldLength x3.toNatClampNeg (w_t_toldLength (x3 - (1 : Int32)).toNatClampNeg)) (upd w_t_toldRigging x3.toNatClampNeg (w_t_toldRigging (x3 - (1 : Int32)).toNatClampNeg)) _ _ _ hw (lv_sub hl [1, 2, 3, 0] rfl) hf
        · have hf := (if_neg c12).symm.trans hf
          refine lv_aload_n hx hb dX7_strings_60 rfl (lv_at hl 0 rfl) ?_
          refine g_get (ci := 7) (C := RX7) (T := TX7) (N := 22) S hinX7 hK hw 0 9 k29 dX7_strings_61 rfl rfl (by decide) rfl ?_
          refine lv_iload_n hx hb dX7_strings_64 rfl (lv_at hl 3 rfl) ?_
          refine lv_iconst (v := (1 : Int32)) hx hb dX7_strings_65 (by decide) ?_
          refine lv_isub hx hb dX7_strings_66 ?_
          obtain ⟨b17, hf⟩ := ck_some hf
          refine g_iald S hK hw 4 0 b17 dX7_strings_67 rfl rfl ?_
          refine lv_aload_n hx hb dX7_strings_68 rfl (lv_at hl 0 rfl) ?_
          refine g_get (ci := 7) (C := RX7) (T := TX7) (N := 22) S hinX7 hK hw 0 6 k23 dX7_strings_69 rfl rfl (by decide) rfl ?_
          refine lv_iload_n hx hb dX7_strings_72 rfl (lv_at hl 2 rfl) ?_
          obtain ⟨b18, hf⟩ := ck_some hf
          refine g_iald S hK hw 2 0 b18 dX7_strings_73 rfl rfl ?_
          refine lv_icmp_ne (tgt := 128) hx hb dX7_strings_74 (by decide) (fun c19 => ?_) (fun c19 => ?_)
          · have hf := (if_neg c19).symm.trans hf
            exact hKx x3 w_t_toldLength w_t_toldRigging _ _ _ hw (lv_sub hl [0, 1, 2, 3] rfl) hf
          · have hf := (if_pos c19).symm.trans hf
            refine lv_aload_n hx hb dX7_strings_77 rfl (lv_at hl 0 rfl) ?_
            refine g_get (ci := 7) (C := RX7) (T := TX7) (N := 22) S hinX7 hK hw 0 10 k32 dX7_strings_78 rfl rfl (by decide) rfl ?_
            refine lv_iload_n hx hb dX7_strings_81 rfl (lv_at hl 3 rfl) ?_
            refine lv_iconst (v := (1 : Int32)) hx hb dX7_strings_82 (by decide) ?_
            refine lv_isub hx hb dX7_strings_83 ?_
            obtain ⟨b20, hf⟩ := ck_some hf
            refine g_iald S hK hw 5 0 b20 dX7_strings_84 rfl rfl ?_
            refine lv_aload_n hx hb dX7_strings_85 rfl (lv_at hl 0 rfl) ?_
            refine g_get (ci := 7) (C := RX7) (T := TX7) (N := 22) S hinX7 hK hw 0 7 k26 dX7_strings_86 rfl rfl (by decide) rfl ?_
            refine lv_iload_n hx hb dX7_strings_89 rfl (lv_at hl 2 rfl) ?_
            obtain ⟨b21, hf⟩ := ck_some hf
            refine g_iald S hK hw 3 0 b21 dX7_strings_90 rfl rfl ?_
            refine lv_icmp_ge (tgt := 128) hx hb dX7_strings_91 (by decide) (fun c22 => ?_) (fun c22 => ?_)
            · have hf := (if_pos c22).symm.trans hf
              exact hKx x3 w_t_toldLength w_t_toldRigging _ _ _ hw (lv_sub hl [0, 1, 2, 3] rfl) hf
            · have hf := (if_neg c22).symm.trans hf
              refine lv_aload_n hx hb dX7_strings_94 rfl (lv_at hl 0 rfl) ?_
              refine g_get (ci := 7) (C := RX7) (T := TX7) (N := 22) S hinX7 hK hw 0 9 k29 dX7_strings_95 rfl rfl (by decide) rfl ?_
              refine lv_iload_n hx hb dX7_strings_98 rfl (lv_at hl 3 rfl) ?_
              refine lv_aload_n hx hb dX7_strings_99 rfl (lv_at hl 0 rfl) ?_
              refine g_get (ci := 7) (C := RX7) (T := TX7) (N := 22) S hinX7 hK hw 0 9 k29 dX7_strings_100 rfl rfl (by decide) rfl ?_
              refine lv_iload_n hx hb dX7_strings_103 rfl (lv_at hl 3 rfl) ?_
              refine lv_iconst (v := (1 : Int32)) hx hb dX7_strings_104 (by decide) ?_
              refine lv_isub hx hb dX7_strings_105 ?_
              obtain ⟨b23, hf⟩ := ck_some hf
              refine g_iald S hK hw 4 0 b23 dX7_strings_106 rfl rfl ?_
              obtain ⟨b24, hf⟩ := ck_some hf
              refine g_iast (ws' := [(q_t, .inr (7, [.ref q_t_boxes, .ref q_t_next, .int t_done, .ref q_t_left, .ref q_t_pairs, .int w_t_many, .ref q_t_lengths, .ref q_t_riggings, .int w_t_told, .ref q_t_toldLength, .ref q_t_toldRigging, .ref q_t_toldRoom, .int t_ringN, .ref q_t_ring, .ref q_t_was, .ref q_t_saved, .ref q_t_isThere, .ref q_t_forms, .ref q_t_sizes, .ref q_t_items, .ref q_t_moved, .int t_finding])), (q_t_boxes, .inl (cZ, 240, .inl t_boxes)), (q_t_lengths, .inl (cI, 241, .inl w_t_lengths)), (q_t_riggings, .inl (cI, 241, .inl w_t_riggings)), (q_t_toldLength, .inl (cI, 241, .inl (upd w_t_toldLength x3.toNatClampNeg (w_t_toldLength (x3 - (1 : Int32)).toNatClampNeg)))), (q_t_toldRigging, .inl (cI, 241, .inl w_t_toldRigging)), (q_t_toldRoom, .inl (cI, 241, .inl w_t_toldRoom))]) S hK hw 4 0 b24 dX7_strings_107 rfl rfl rfl (fun H locs hw => ?_)
              refine lv_aload_n hx hb dX7_strings_108 rfl (lv_at hl 0 rfl) ?_
              refine g_get (ci := 7) (C := RX7) (T := TX7) (N := 22) S hinX7 hK hw 0 10 k32 dX7_strings_109 rfl rfl (by decide) rfl ?_
              refine lv_iload_n hx hb dX7_strings_112 rfl (lv_at hl 3 rfl) ?_
              refine lv_aload_n hx hb dX7_strings_113 rfl (lv_at hl 0 rfl) ?_
              refine g_get (ci := 7) (C := RX7) (T := TX7) (N := 22) S hinX7 hK hw 0 10 k32 dX7_strings_114 rfl rfl (by decide) rfl ?_
              refine lv_iload_n hx hb dX7_strings_117 rfl (lv_at hl 3 rfl) ?_
              refine lv_iconst (v := (1 : Int32)) hx hb dX7_strings_118 (by decide) ?_
              refine lv_isub hx hb dX7_strings_119 ?_
              obtain ⟨b25, hf⟩ := ck_some hf
              refine g_iald S hK hw 5 0 b25 dX7_strings_120 rfl rfl ?_
              obtain ⟨b26, hf⟩ := ck_some hf
              refine g_iast (ws' := [(q_t, .inr (7, [.ref q_t_boxes, .ref q_t_next, .int t_done, .ref q_t_left, .ref q_t_pairs, .int w_t_many, .ref q_t_lengths, .ref q_t_riggings, .int w_t_told, .ref q_t_toldLength, .ref q_t_toldRigging, .ref q_t_toldRoom, .int t_ringN, .ref q_t_ring, .ref q_t_was, .ref q_t_saved, .ref q_t_isThere, .ref q_t_forms, .ref q_t_sizes, .ref q_t_items, .ref q_t_moved, .int t_finding])), (q_t_boxes, .inl (cZ, 240, .inl t_boxes)), (q_t_lengths, .inl (cI, 241, .inl w_t_lengths)), (q_t_riggings, .inl (cI, 241, .inl w_t_riggings)), (q_t_toldLength, .inl (cI, 241, .inl (upd w_t_toldLength x3.toNatClampNeg (w_t_toldLength (x3 - (1 : Int32)).toNatClampNeg)))), (q_t_toldRigging, .inl (cI, 241, .inl (upd w_t_toldRigging x3.toNatClampNeg (w_t_toldRigging (x3 - (1 : Int32)).toNatClampNeg)))), (q_t_toldRoom, .inl (cI, 241, .inl w_t_toldRoom))]) S hK hw 5 0 b26 dX7_strings_121 rfl rfl rfl (fun H locs hw => ?_)
              refine lv_iinc (v := (x3 + (-1 : Int32))) (lv' := [(3, .int (x3 + (-1 : Int32))), (0, .ref q_t), (1, .int x1), (2, .int x2)]) hx hb dX7_strings_122 hl (k := 3) rfl rfl (by decide) rfl (fun ls hl => ?_)
              refine lv_goto (tgt := 39) hx hb dX7_strings_125 (by decide) ?_
              exact ih (x3 + (-1 : Int32)) (upd w_t_toldLength x3.toNatClampNeg (w_t_toldLength (x3 - (1 : Int32)).toNatClampNeg)) (upd w_t_toldRigging x3.toNatClampNeg (w_t_toldRigging (x3 - (1 : Int32)).toNatClampNeg)) _ _ _ hw (lv_sub hl [1, 2, 3, 0] rfl) hf
  have Lp29 : ∀ (x1 : Int32) (w_t_many : Int32) (w_t_told : Int32) (w_t_lengths : (Nat → Int32)) (w_t_riggings : (Nat → Int32)) (w_t_toldRoom : (Nat → Int32)) (K : (Nat → Int32) → (Nat → Int32) → Option (Int32 × Int32 × Int32 × (Nat → Int32) × (Nat → Int32) × (Nat → Int32) × (Nat → Int32) × (Nat → Int32))), (∀ (z_t_toldLength : (Nat → Int32)) (z_t_toldRigging : (Nat → Int32)) (H : Heap) (locs : List Loc) (ls : Array Slot), Wd D A s.heap [(q_t, .inr (7, [.ref q_t_boxes, .ref q_t_next, .int t_done, .ref q_t_left, .ref q_t_pairs, .int w_t_many, .ref q_t_lengths, .ref q_t_riggings, .int w_t_told, .ref q_t_toldLength, .ref q_t_toldRigging, .ref q_t_toldRoom, .int t_ringN, .ref q_t_ring, .ref q_t_was, .ref q_t_saved, .ref q_t_isThere, .ref q_t_forms, .ref q_t_sizes, .ref q_t_items, .ref q_t_moved, .int t_finding])), (q_t_boxes, .inl (cZ, 240, .inl t_boxes)), (q_t_lengths, .inl (cI, 241, .inl w_t_lengths)), (q_t_riggings, .inl (cI, 241, .inl w_t_riggings)), (q_t_toldLength, .inl (cI, 241, .inl z_t_toldLength)), (q_t_toldRigging, .inl (cI, 241, .inl z_t_toldRigging)), (q_t_toldRoom, .inl (cI, 241, .inl w_t_toldRoom))] H locs → lv_has ls 4 [(0, .ref q_t), (1, .int x1)] → K z_t_toldLength z_t_toldRigging = some (r, o_t_many, o_t_told, o_t_lengths, o_t_riggings, o_t_toldLength, o_t_toldRigging, o_t_toldRoom) → W p l e ({ frames := 3, cells := 0, slots := 0, locals := 72 } : Room) s m ([.ref q_t, .int p1] : List Value).toArray below meth c H locs 0 0 (MQ below (QcI D [(q_t, .inr (7, [.ref q_t_boxes, .ref q_t_next, .int t_done, .ref q_t_left, .ref q_t_pairs, .int o_t_many, .ref q_t_lengths, .ref q_t_riggings, .int o_t_told, .ref q_t_toldLength, .ref q_t_toldRigging, .ref q_t_toldRoom, .int t_ringN, .ref q_t_ring, .ref q_t_was, .ref q_t_saved, .ref q_t_isThere, .ref q_t_forms, .ref q_t_sizes, .ref q_t_items, .ref q_t_moved, .int t_finding])), (q_t_boxes, .inl (cZ, 240, .inl t_boxes)), (q_t_lengths, .inl (cI, 241, .inl o_t_lengths)), (q_t_riggings, .inl (cI, 241, .inl o_t_riggings)), (q_t_toldLength, .inl (cI, 241, .inl o_t_toldLength)), (q_t_toldRigging, .inl (cI, 241, .inl o_t_toldRigging)), (q_t_toldRoom, .inl (cI, 241, .inl o_t_toldRoom))] A r) ([.ref q_t, .int p1] : List Value).toArray s 0 0 A) (F0 m 158 ls [])) → ∀ (n : Nat) (x2 : Int32) (w_t_toldLength : (Nat → Int32)) (w_t_toldRigging : (Nat → Int32)) (H : Heap) (locs : List Loc) (ls : Array Slot), Wd D A s.heap [(q_t, .inr (7, [.ref q_t_boxes, .ref q_t_next, .int t_done, .ref q_t_left, .ref q_t_pairs, .int w_t_many, .ref q_t_lengths, .ref q_t_riggings, .int w_t_told, .ref q_t_toldLength, .ref q_t_toldRigging, .ref q_t_toldRoom, .int t_ringN, .ref q_t_ring, .ref q_t_was, .ref q_t_saved, .ref q_t_isThere, .ref q_t_forms, .ref q_t_sizes, .ref q_t_items, .ref q_t_moved, .int t_finding])), (q_t_boxes, .inl (cZ, 240, .inl t_boxes)), (q_t_lengths, .inl (cI, 241, .inl w_t_lengths)), (q_t_riggings, .inl (cI, 241, .inl w_t_riggings)), (q_t_toldLength, .inl (cI, 241, .inl w_t_toldLength)), (q_t_toldRigging, .inl (cI, 241, .inl w_t_toldRigging)), (q_t_toldRoom, .inl (cI, 241, .inl w_t_toldRoom))] H locs → lv_has ls 4 [(0, .ref q_t), (1, .int x1), (2, .int x2)] → L_X7_strings_29 N w_t_many w_t_lengths w_t_riggings K n x2 w_t_toldLength w_t_toldRigging = some (r, o_t_many, o_t_told, o_t_lengths, o_t_riggings, o_t_toldLength, o_t_toldRigging, o_t_toldRoom) → W p l e ({ frames := 3, cells := 0, slots := 0, locals := 72 } : Room) s m ([.ref q_t, .int p1] : List Value).toArray below meth c H locs 0 0 (MQ below (QcI D [(q_t, .inr (7, [.ref q_t_boxes, .ref q_t_next, .int t_done, .ref q_t_left, .ref q_t_pairs, .int o_t_many, .ref q_t_lengths, .ref q_t_riggings, .int o_t_told, .ref q_t_toldLength, .ref q_t_toldRigging, .ref q_t_toldRoom, .int t_ringN, .ref q_t_ring, .ref q_t_was, .ref q_t_saved, .ref q_t_isThere, .ref q_t_forms, .ref q_t_sizes, .ref q_t_items, .ref q_t_moved, .int t_finding])), (q_t_boxes, .inl (cZ, 240, .inl t_boxes)), (q_t_lengths, .inl (cI, 241, .inl o_t_lengths)), (q_t_riggings, .inl (cI, 241, .inl o_t_riggings)), (q_t_toldLength, .inl (cI, 241, .inl o_t_toldLength)), (q_t_toldRigging, .inl (cI, 241, .inl o_t_toldRigging)), (q_t_toldRoom, .inl (cI, 241, .inl o_t_toldRoom))] A r) ([.ref q_t, .int p1] : List Value).toArray s 0 0 A) (F0 m 29 ls []) := by
    intro x1 w_t_many w_t_told w_t_lengths w_t_riggings w_t_toldRoom K hKx n
    induction n with
    | zero =>
      intro x2 w_t_toldLength w_t_toldRigging H locs ls hw hl hf
      rw [L_X7_strings_29] at hf
      cases hf
    | succ n ih =>
      intro x2 w_t_toldLength w_t_toldRigging H locs ls hw hl hf
      rw [L_X7_strings_29] at hf
      refine lv_iload_n hx hb dX7_strings_29 rfl (lv_at hl 2 rfl) ?_
      refine lv_aload_n hx hb dX7_strings_30 rfl (lv_at hl 0 rfl) ?_
      refine g_get (ci := 7) (C := RX7) (T := TX7) (N := 22) S hinX7 hK hw 0 5 k87 dX7_strings_31 rfl rfl (by decide) rfl ?_
      refine lv_icmp_ge (tgt := 158) hx hb dX7_strings_34 (by decide) (fun c8 => ?_) (fun c8 => ?_)
      · have hf := (if_pos c8).symm.trans hf
        exact hKx w_t_toldLength w_t_toldRigging _ _ _ hw (lv_sub hl [0, 1] rfl) hf
      · have hf := (if_neg c8).symm.trans hf
        refine lv_iload_n hx hb dX7_strings_37 rfl (lv_at hl 2 rfl) ?_
        refine lv_istore_n (lv' := [(3, .int x2), (0, .ref q_t), (1, .int x1), (2, .int x2)]) hx hb dX7_strings_38 rfl hl (by decide) rfl (fun ls hl => ?_)
        refine Lp39 x1 x2 w_t_many w_t_told w_t_lengths w_t_riggings w_t_toldRoom _ (fun y27 u28 u29 H locs ls hw hl hf => ?_) N x2 w_t_toldLength w_t_toldRigging _ _ _ hw (lv_sub hl [1, 2, 3, 0] rfl) hf
        refine lv_aload_n hx hb dX7_strings_128 rfl (lv_at hl 0 rfl) ?_
        refine g_get (ci := 7) (C := RX7) (T := TX7) (N := 22) S hinX7 hK hw 0 9 k29 dX7_strings_129 rfl rfl (by decide) rfl ?_
        refine lv_iload_n hx hb dX7_strings_132 rfl (lv_at hl 3 rfl) ?_
        refine lv_aload_n hx hb dX7_strings_133 rfl (lv_at hl 0 rfl) ?_
        refine g_get (ci := 7) (C := RX7) (T := TX7) (N := 22) S hinX7 hK hw 0 6 k23 dX7_strings_134 rfl rfl (by decide) rfl ?_
        refine lv_iload_n hx hb dX7_strings_137 rfl (lv_at hl 2 rfl) ?_
        obtain ⟨b30, hf⟩ := ck_some hf
        refine g_iald S hK hw 2 0 b30 dX7_strings_138 rfl rfl ?_
        obtain ⟨b31, hf⟩ := ck_some hf
        refine g_iast (ws' := [(q_t, .inr (7, [.ref q_t_boxes, .ref q_t_next, .int t_done, .ref q_t_left, .ref q_t_pairs, .int w_t_many, .ref q_t_lengths, .ref q_t_riggings, .int w_t_told, .ref q_t_toldLength, .ref q_t_toldRigging, .ref q_t_toldRoom, .int t_ringN, .ref q_t_ring, .ref q_t_was, .ref q_t_saved, .ref q_t_isThere, .ref q_t_forms, .ref q_t_sizes, .ref q_t_items, .ref q_t_moved, .int t_finding])), (q_t_boxes, .inl (cZ, 240, .inl t_boxes)), (q_t_lengths, .inl (cI, 241, .inl w_t_lengths)), (q_t_riggings, .inl (cI, 241, .inl w_t_riggings)), (q_t_toldLength, .inl (cI, 241, .inl (upd u28 y27.toNatClampNeg (w_t_lengths x2.toNatClampNeg)))), (q_t_toldRigging, .inl (cI, 241, .inl u29)), (q_t_toldRoom, .inl (cI, 241, .inl w_t_toldRoom))]) S hK hw 4 0 b31 dX7_strings_139 rfl rfl rfl (fun H locs hw => ?_)
        refine lv_aload_n hx hb dX7_strings_140 rfl (lv_at hl 0 rfl) ?_
        refine g_get (ci := 7) (C := RX7) (T := TX7) (N := 22) S hinX7 hK hw 0 10 k32 dX7_strings_141 rfl rfl (by decide) rfl ?_
        refine lv_iload_n hx hb dX7_strings_144 rfl (lv_at hl 3 rfl) ?_
        refine lv_aload_n hx hb dX7_strings_145 rfl (lv_at hl 0 rfl) ?_
        refine g_get (ci := 7) (C := RX7) (T := TX7) (N := 22) S hinX7 hK hw 0 7 k26 dX7_strings_146 rfl rfl (by decide) rfl ?_
        refine lv_iload_n hx hb dX7_strings_149 rfl (lv_at hl 2 rfl) ?_
        obtain ⟨b32, hf⟩ := ck_some hf
        refine g_iald S hK hw 3 0 b32 dX7_strings_150 rfl rfl ?_
        obtain ⟨b33, hf⟩ := ck_some hf
        refine g_iast (ws' := [(q_t, .inr (7, [.ref q_t_boxes, .ref q_t_next, .int t_done, .ref q_t_left, .ref q_t_pairs, .int w_t_many, .ref q_t_lengths, .ref q_t_riggings, .int w_t_told, .ref q_t_toldLength, .ref q_t_toldRigging, .ref q_t_toldRoom, .int t_ringN, .ref q_t_ring, .ref q_t_was, .ref q_t_saved, .ref q_t_isThere, .ref q_t_forms, .ref q_t_sizes, .ref q_t_items, .ref q_t_moved, .int t_finding])), (q_t_boxes, .inl (cZ, 240, .inl t_boxes)), (q_t_lengths, .inl (cI, 241, .inl w_t_lengths)), (q_t_riggings, .inl (cI, 241, .inl w_t_riggings)), (q_t_toldLength, .inl (cI, 241, .inl (upd u28 y27.toNatClampNeg (w_t_lengths x2.toNatClampNeg)))), (q_t_toldRigging, .inl (cI, 241, .inl (upd u29 y27.toNatClampNeg (w_t_riggings x2.toNatClampNeg)))), (q_t_toldRoom, .inl (cI, 241, .inl w_t_toldRoom))]) S hK hw 5 0 b33 dX7_strings_151 rfl rfl rfl (fun H locs hw => ?_)
        refine lv_iinc (v := (x2 + (1 : Int32))) (lv' := [(2, .int (x2 + (1 : Int32))), (0, .ref q_t), (1, .int x1), (3, .int y27)]) hx hb dX7_strings_152 hl (k := 2) rfl rfl (by decide) rfl (fun ls hl => ?_)
        refine lv_goto (tgt := 29) hx hb dX7_strings_155 (by decide) ?_
        exact ih (x2 + (1 : Int32)) (upd u28 y27.toNatClampNeg (w_t_lengths x2.toNatClampNeg)) (upd u29 y27.toNatClampNeg (w_t_riggings x2.toNatClampNeg)) _ _ _ hw (lv_sub hl [1, 2, 0] rfl) hf
  have Lp160 : ∀ (x1 : Int32) (w_t_many : Int32) (w_t_told : Int32) (w_t_lengths : (Nat → Int32)) (w_t_riggings : (Nat → Int32)) (w_t_toldLength : (Nat → Int32)) (w_t_toldRigging : (Nat → Int32)) (K : (Nat → Int32) → Option (Int32 × Int32 × Int32 × (Nat → Int32) × (Nat → Int32) × (Nat → Int32) × (Nat → Int32) × (Nat → Int32))), (∀ (z_t_toldRoom : (Nat → Int32)) (H : Heap) (locs : List Loc) (ls : Array Slot), Wd D A s.heap [(q_t, .inr (7, [.ref q_t_boxes, .ref q_t_next, .int t_done, .ref q_t_left, .ref q_t_pairs, .int w_t_many, .ref q_t_lengths, .ref q_t_riggings, .int w_t_told, .ref q_t_toldLength, .ref q_t_toldRigging, .ref q_t_toldRoom, .int t_ringN, .ref q_t_ring, .ref q_t_was, .ref q_t_saved, .ref q_t_isThere, .ref q_t_forms, .ref q_t_sizes, .ref q_t_items, .ref q_t_moved, .int t_finding])), (q_t_boxes, .inl (cZ, 240, .inl t_boxes)), (q_t_lengths, .inl (cI, 241, .inl w_t_lengths)), (q_t_riggings, .inl (cI, 241, .inl w_t_riggings)), (q_t_toldLength, .inl (cI, 241, .inl w_t_toldLength)), (q_t_toldRigging, .inl (cI, 241, .inl w_t_toldRigging)), (q_t_toldRoom, .inl (cI, 241, .inl z_t_toldRoom))] H locs → lv_has ls 4 [(0, .ref q_t)] → K z_t_toldRoom = some (r, o_t_many, o_t_told, o_t_lengths, o_t_riggings, o_t_toldLength, o_t_toldRigging, o_t_toldRoom) → W p l e ({ frames := 3, cells := 0, slots := 0, locals := 72 } : Room) s m ([.ref q_t, .int p1] : List Value).toArray below meth c H locs 0 0 (MQ below (QcI D [(q_t, .inr (7, [.ref q_t_boxes, .ref q_t_next, .int t_done, .ref q_t_left, .ref q_t_pairs, .int o_t_many, .ref q_t_lengths, .ref q_t_riggings, .int o_t_told, .ref q_t_toldLength, .ref q_t_toldRigging, .ref q_t_toldRoom, .int t_ringN, .ref q_t_ring, .ref q_t_was, .ref q_t_saved, .ref q_t_isThere, .ref q_t_forms, .ref q_t_sizes, .ref q_t_items, .ref q_t_moved, .int t_finding])), (q_t_boxes, .inl (cZ, 240, .inl t_boxes)), (q_t_lengths, .inl (cI, 241, .inl o_t_lengths)), (q_t_riggings, .inl (cI, 241, .inl o_t_riggings)), (q_t_toldLength, .inl (cI, 241, .inl o_t_toldLength)), (q_t_toldRigging, .inl (cI, 241, .inl o_t_toldRigging)), (q_t_toldRoom, .inl (cI, 241, .inl o_t_toldRoom))] A r) ([.ref q_t, .int p1] : List Value).toArray s 0 0 A) (F0 m 191 ls [])) → ∀ (n : Nat) (x2 : Int32) (w_t_toldRoom : (Nat → Int32)) (H : Heap) (locs : List Loc) (ls : Array Slot), Wd D A s.heap [(q_t, .inr (7, [.ref q_t_boxes, .ref q_t_next, .int t_done, .ref q_t_left, .ref q_t_pairs, .int w_t_many, .ref q_t_lengths, .ref q_t_riggings, .int w_t_told, .ref q_t_toldLength, .ref q_t_toldRigging, .ref q_t_toldRoom, .int t_ringN, .ref q_t_ring, .ref q_t_was, .ref q_t_saved, .ref q_t_isThere, .ref q_t_forms, .ref q_t_sizes, .ref q_t_items, .ref q_t_moved, .int t_finding])), (q_t_boxes, .inl (cZ, 240, .inl t_boxes)), (q_t_lengths, .inl (cI, 241, .inl w_t_lengths)), (q_t_riggings, .inl (cI, 241, .inl w_t_riggings)), (q_t_toldLength, .inl (cI, 241, .inl w_t_toldLength)), (q_t_toldRigging, .inl (cI, 241, .inl w_t_toldRigging)), (q_t_toldRoom, .inl (cI, 241, .inl w_t_toldRoom))] H locs → lv_has ls 4 [(0, .ref q_t), (1, .int x1), (2, .int x2)] → L_X7_strings_160 N x1 w_t_many w_t_lengths w_t_toldLength K n x2 w_t_toldRoom = some (r, o_t_many, o_t_told, o_t_lengths, o_t_riggings, o_t_toldLength, o_t_toldRigging, o_t_toldRoom) → W p l e ({ frames := 3, cells := 0, slots := 0, locals := 72 } : Room) s m ([.ref q_t, .int p1] : List Value).toArray below meth c H locs 0 0 (MQ below (QcI D [(q_t, .inr (7, [.ref q_t_boxes, .ref q_t_next, .int t_done, .ref q_t_left, .ref q_t_pairs, .int o_t_many, .ref q_t_lengths, .ref q_t_riggings, .int o_t_told, .ref q_t_toldLength, .ref q_t_toldRigging, .ref q_t_toldRoom, .int t_ringN, .ref q_t_ring, .ref q_t_was, .ref q_t_saved, .ref q_t_isThere, .ref q_t_forms, .ref q_t_sizes, .ref q_t_items, .ref q_t_moved, .int t_finding])), (q_t_boxes, .inl (cZ, 240, .inl t_boxes)), (q_t_lengths, .inl (cI, 241, .inl o_t_lengths)), (q_t_riggings, .inl (cI, 241, .inl o_t_riggings)), (q_t_toldLength, .inl (cI, 241, .inl o_t_toldLength)), (q_t_toldRigging, .inl (cI, 241, .inl o_t_toldRigging)), (q_t_toldRoom, .inl (cI, 241, .inl o_t_toldRoom))] A r) ([.ref q_t, .int p1] : List Value).toArray s 0 0 A) (F0 m 160 ls []) := by
    intro x1 w_t_many w_t_told w_t_lengths w_t_riggings w_t_toldLength w_t_toldRigging K hKx n
    induction n with
    | zero =>
      intro x2 w_t_toldRoom H locs ls hw hl hf
      rw [L_X7_strings_160] at hf
      cases hf
    | succ n ih =>
      intro x2 w_t_toldRoom H locs ls hw hl hf
      rw [L_X7_strings_160] at hf
      refine lv_iload_n hx hb dX7_strings_160 rfl (lv_at hl 2 rfl) ?_
      refine lv_aload_n hx hb dX7_strings_161 rfl (lv_at hl 0 rfl) ?_
      refine g_get (ci := 7) (C := RX7) (T := TX7) (N := 22) S hinX7 hK hw 0 5 k87 dX7_strings_162 rfl rfl (by decide) rfl ?_
      refine lv_icmp_ge (tgt := 191) hx hb dX7_strings_165 (by decide) (fun c36 => ?_) (fun c36 => ?_)
      · have hf := (if_pos c36).symm.trans hf
        exact hKx w_t_toldRoom _ _ _ hw (lv_sub hl [0] rfl) hf
      · have hf := (if_neg c36).symm.trans hf
        refine lv_aload_n hx hb dX7_strings_168 rfl (lv_at hl 0 rfl) ?_
        refine g_get (ci := 7) (C := RX7) (T := TX7) (N := 22) S hinX7 hK hw 0 11 k35 dX7_strings_169 rfl rfl (by decide) rfl ?_
        refine lv_iload_n hx hb dX7_strings_172 rfl (lv_at hl 2 rfl) ?_
        refine lv_aload_n hx hb dX7_strings_173 rfl (lv_at hl 0 rfl) ?_
        refine lv_aload_n hx hb dX7_strings_174 rfl (lv_at hl 0 rfl) ?_
        refine g_get (ci := 7) (C := RX7) (T := TX7) (N := 22) S hinX7 hK hw 0 9 k29 dX7_strings_175 rfl rfl (by decide) rfl ?_
        refine lv_iload_n hx hb dX7_strings_178 rfl (lv_at hl 2 rfl) ?_
        obtain ⟨b37, hf⟩ := ck_some hf
        refine g_iald S hK hw 4 0 b37 dX7_strings_179 rfl rfl ?_
        refine lv_iload_n hx hb dX7_strings_180 rfl (lv_at hl 1 rfl) ?_
        obtain ⟨r38, h39, hf⟩ := bd1_some hf
        refine cl_i (wr := [(q_t_boxes, .inl (cZ, 240, .inl t_boxes)), (q_t_riggings, .inl (cI, 241, .inl w_t_riggings)), (q_t_toldLength, .inl (cI, 241, .inl w_t_toldLength)), (q_t_toldRigging, .inl (cI, 241, .inl w_t_toldRigging)), (q_t_toldRoom, .inl (cI, 241, .inl w_t_toldRoom))]) (ws' := [(q_t, .inr (7, [.ref q_t_boxes, .ref q_t_next, .int t_done, .ref q_t_left, .ref q_t_pairs, .int w_t_many, .ref q_t_lengths, .ref q_t_riggings, .int w_t_told, .ref q_t_toldLength, .ref q_t_toldRigging, .ref q_t_toldRoom, .int t_ringN, .ref q_t_ring, .ref q_t_was, .ref q_t_saved, .ref q_t_isThere, .ref q_t_forms, .ref q_t_sizes, .ref q_t_items, .ref q_t_moved, .int t_finding])), (q_t_boxes, .inl (cZ, 240, .inl t_boxes)), (q_t_lengths, .inl (cI, 241, .inl w_t_lengths)), (q_t_riggings, .inl (cI, 241, .inl w_t_riggings)), (q_t_toldLength, .inl (cI, 241, .inl w_t_toldLength)), (q_t_toldRigging, .inl (cI, 241, .inl w_t_toldRigging)), (q_t_toldRoom, .inl (cI, 241, .inl w_t_toldRoom))]) hA hw [0, 2] [1, 3, 4, 5, 6] [5, 0, 6, 1, 2, 3, 4] rfl rfl rfl (by decide) rfl rfl (va_runV (As := [.int (w_t_toldLength x2.toNatClampNeg), .int x1]) (rest := [.int x2, .ref q_t_toldRoom]) S (c_X7_room l D cI cZ cJ cO _ q_t q_t_boxes q_t_next q_t_left q_t_pairs q_t_lengths q_t_riggings q_t_toldLength q_t_toldRigging q_t_toldRoom q_t_ring q_t_was q_t_saved q_t_isThere q_t_forms q_t_sizes q_t_items q_t_moved N (w_t_toldLength x2.toNatClampNeg) x1 t_done w_t_many w_t_told t_ringN t_finding w_t_lengths r38 h39) (cwV 2 hts gX7_strings_X7_room rfl rfl rfl (by decide +kernel) ⟨Nat.le_of_ble_eq_true rfl, Nat.le_of_ble_eq_true rfl⟩) (pre_V hK hN hw [0, 2] rfl rfl (C := RX7) (T := TX7) (N := 22) (ci := 7) (q0 := 0) rfl rfl) rfl rfl hl.1 rfl (lv_room (Nat.le_of_ble_eq_true rfl)) dX7_strings_181 ⟨Nat.zero_le _, Nat.zero_le _⟩) (fun H locs hw => ?_)
        obtain ⟨b40, hf⟩ := ck_some hf
        refine g_iast (ws' := [(q_t, .inr (7, [.ref q_t_boxes, .ref q_t_next, .int t_done, .ref q_t_left, .ref q_t_pairs, .int w_t_many, .ref q_t_lengths, .ref q_t_riggings, .int w_t_told, .ref q_t_toldLength, .ref q_t_toldRigging, .ref q_t_toldRoom, .int t_ringN, .ref q_t_ring, .ref q_t_was, .ref q_t_saved, .ref q_t_isThere, .ref q_t_forms, .ref q_t_sizes, .ref q_t_items, .ref q_t_moved, .int t_finding])), (q_t_boxes, .inl (cZ, 240, .inl t_boxes)), (q_t_lengths, .inl (cI, 241, .inl w_t_lengths)), (q_t_riggings, .inl (cI, 241, .inl w_t_riggings)), (q_t_toldLength, .inl (cI, 241, .inl w_t_toldLength)), (q_t_toldRigging, .inl (cI, 241, .inl w_t_toldRigging)), (q_t_toldRoom, .inl (cI, 241, .inl (upd w_t_toldRoom x2.toNatClampNeg r38)))]) S hK hw 6 0 b40 dX7_strings_184 rfl rfl rfl (fun H locs hw => ?_)
        refine lv_iinc (v := (x2 + (1 : Int32))) (lv' := [(2, .int (x2 + (1 : Int32))), (0, .ref q_t), (1, .int x1)]) hx hb dX7_strings_185 hl (k := 2) rfl rfl (by decide) rfl (fun ls hl => ?_)
        refine lv_goto (tgt := 160) hx hb dX7_strings_188 (by decide) ?_
        exact ih (x2 + (1 : Int32)) (upd w_t_toldRoom x2.toNatClampNeg r38) _ _ _ hw (lv_sub hl [1, 2, 0] rfl) hf
  unfold f_X7_strings at hf
  refine lv_iload_n hx hb dX7_strings_0 rfl (lv_at hl 1 rfl) ?_
  refine lv_iconst (v := (0 : Int32)) hx hb dX7_strings_1 (by decide) ?_
  refine lv_sipush (v := (240 : Int32)) hx hb dX7_strings_2 (by decide) ?_
  obtain ⟨r1, h2, hf⟩ := bd1_some hf
  refine cl_i (wr := [(q_t, .inr (7, [.ref q_t_boxes, .ref q_t_next, .int t_done, .ref q_t_left, .ref q_t_pairs, .int t_many, .ref q_t_lengths, .ref q_t_riggings, .int t_told, .ref q_t_toldLength, .ref q_t_toldRigging, .ref q_t_toldRoom, .int t_ringN, .ref q_t_ring, .ref q_t_was, .ref q_t_saved, .ref q_t_isThere, .ref q_t_forms, .ref q_t_sizes, .ref q_t_items, .ref q_t_moved, .int t_finding])), (q_t_boxes, .inl (cZ, 240, .inl t_boxes)), (q_t_lengths, .inl (cI, 241, .inl t_lengths)), (q_t_riggings, .inl (cI, 241, .inl t_riggings)), (q_t_toldLength, .inl (cI, 241, .inl t_toldLength)), (q_t_toldRigging, .inl (cI, 241, .inl t_toldRigging)), (q_t_toldRoom, .inl (cI, 241, .inl t_toldRoom))]) (ws' := [(q_t, .inr (7, [.ref q_t_boxes, .ref q_t_next, .int t_done, .ref q_t_left, .ref q_t_pairs, .int t_many, .ref q_t_lengths, .ref q_t_riggings, .int t_told, .ref q_t_toldLength, .ref q_t_toldRigging, .ref q_t_toldRoom, .int t_ringN, .ref q_t_ring, .ref q_t_was, .ref q_t_saved, .ref q_t_isThere, .ref q_t_forms, .ref q_t_sizes, .ref q_t_items, .ref q_t_moved, .int t_finding])), (q_t_boxes, .inl (cZ, 240, .inl t_boxes)), (q_t_lengths, .inl (cI, 241, .inl t_lengths)), (q_t_riggings, .inl (cI, 241, .inl t_riggings)), (q_t_toldLength, .inl (cI, 241, .inl t_toldLength)), (q_t_toldRigging, .inl (cI, 241, .inl t_toldRigging)), (q_t_toldRoom, .inl (cI, 241, .inl t_toldRoom))]) hA hw [] [0, 1, 2, 3, 4, 5, 6] [0, 1, 2, 3, 4, 5, 6] rfl rfl rfl (by decide) rfl rfl (va_runS (As := [.int p1, .int (0 : Int32), .int (240 : Int32)]) (rest := []) S (c_X7_in l D cI cZ cJ cO _ N p1 (0 : Int32) (240 : Int32) r1 h2) (va_cwS 3 hts gX7_strings_X7_in rfl rfl rfl (by decide +kernel) ⟨Nat.le_of_ble_eq_true rfl, Nat.le_of_ble_eq_true rfl⟩) (pre_S hK hN hw [] rfl rfl) rfl rfl hl.1 rfl (lv_room (Nat.le_of_ble_eq_true rfl)) dX7_strings_5 ⟨Nat.zero_le _, Nat.zero_le _⟩) (fun H locs hw => ?_)
  refine lv_if_ne (tgt := 14) hx hb dX7_strings_8 (by decide) (fun c3 => ?_) (fun c3 => ?_)
  · have hf := (if_neg c3).symm.trans hf
    refine lv_aload_n hx hb dX7_strings_14 rfl (lv_at hl 0 rfl) ?_
    refine lv_iload_n hx hb dX7_strings_15 rfl (lv_at hl 1 rfl) ?_
    obtain ⟨u4, u5, u6, h7, hf⟩ := bd3_some hf
    refine cl_v (wr := [(q_t_toldLength, .inl (cI, 241, .inl t_toldLength)), (q_t_toldRigging, .inl (cI, 241, .inl t_toldRigging)), (q_t_toldRoom, .inl (cI, 241, .inl t_toldRoom))]) (ws' := [(q_t, .inr (7, [.ref q_t_boxes, .ref q_t_next, .int t_done, .ref q_t_left, .ref q_t_pairs, .int u4, .ref q_t_lengths, .ref q_t_riggings, .int t_told, .ref q_t_toldLength, .ref q_t_toldRigging, .ref q_t_toldRoom, .int t_ringN, .ref q_t_ring, .ref q_t_was, .ref q_t_saved, .ref q_t_isThere, .ref q_t_forms, .ref q_t_sizes, .ref q_t_items, .ref q_t_moved, .int t_finding])), (q_t_boxes, .inl (cZ, 240, .inl t_boxes)), (q_t_lengths, .inl (cI, 241, .inl u5)), (q_t_riggings, .inl (cI, 241, .inl u6)), (q_t_toldLength, .inl (cI, 241, .inl t_toldLength)), (q_t_toldRigging, .inl (cI, 241, .inl t_toldRigging)), (q_t_toldRoom, .inl (cI, 241, .inl t_toldRoom))]) hA hw [0, 1, 2, 3] [4, 5, 6] [3, 4, 5, 6, 0, 1, 2] rfl rfl rfl (by decide) rfl rfl (va_runV (As := [.int p1]) (rest := []) S (c_X7_reads l D cI cZ cJ cO _ q_t q_t_boxes q_t_next q_t_left q_t_pairs q_t_lengths q_t_riggings q_t_toldLength q_t_toldRigging q_t_toldRoom q_t_ring q_t_was q_t_saved q_t_isThere q_t_forms q_t_sizes q_t_items q_t_moved N p1 t_done t_many t_told t_ringN t_finding t_boxes t_lengths t_riggings u4 u5 u6 h7) (cwV 1 hts gX7_strings_X7_reads rfl rfl rfl (by decide +kernel) ⟨Nat.le_of_ble_eq_true rfl, Nat.le_of_ble_eq_true rfl⟩) (pre_V hK hN hw [0, 1, 2, 3] rfl rfl (C := RX7) (T := TX7) (N := 22) (ci := 7) (q0 := 0) rfl rfl) rfl rfl hl.1 rfl (lv_room (Nat.le_of_ble_eq_true rfl)) dX7_strings_16 ⟨Nat.zero_le _, Nat.zero_le _⟩) (fun H locs hw => ?_)
    refine lv_aload_n hx hb dX7_strings_19 rfl (lv_at hl 0 rfl) ?_
    refine lv_aload_n hx hb dX7_strings_20 rfl (lv_at hl 0 rfl) ?_
    refine g_get (ci := 7) (C := RX7) (T := TX7) (N := 22) S hinX7 hK hw 0 5 k87 dX7_strings_21 rfl rfl (by decide) rfl ?_
    refine g_put (ci := 7) (C := RX7) (T := TX7) (N := 22) (ws' := [(q_t, .inr (7, [.ref q_t_boxes, .ref q_t_next, .int t_done, .ref q_t_left, .ref q_t_pairs, .int u4, .ref q_t_lengths, .ref q_t_riggings, .int u4, .ref q_t_toldLength, .ref q_t_toldRigging, .ref q_t_toldRoom, .int t_ringN, .ref q_t_ring, .ref q_t_was, .ref q_t_saved, .ref q_t_isThere, .ref q_t_forms, .ref q_t_sizes, .ref q_t_items, .ref q_t_moved, .int t_finding])), (q_t_boxes, .inl (cZ, 240, .inl t_boxes)), (q_t_lengths, .inl (cI, 241, .inl u5)), (q_t_riggings, .inl (cI, 241, .inl u6)), (q_t_toldLength, .inl (cI, 241, .inl t_toldLength)), (q_t_toldRigging, .inl (cI, 241, .inl t_toldRigging)), (q_t_toldRoom, .inl (cI, 241, .inl t_toldRoom))]) S hinX7 tyX7 tyX7_ok nmX7 hK hw 0 8 k104 dX7_strings_24 rfl rfl (by decide) rfl rfl rfl (Nat.le_of_ble_eq_true rfl) rfl (fun H locs hw => ?_)
    refine lv_iconst (v := (0 : Int32)) hx hb dX7_strings_27 (by decide) ?_
    refine lv_istore_n (lv' := [(2, .int (0 : Int32)), (0, .ref q_t), (1, .int p1)]) hx hb dX7_strings_28 rfl hl (by decide) rfl (fun ls hl => ?_)
    refine Lp29 p1 u4 u4 u5 u6 t_toldRoom _ (fun u34 u35 H locs ls hw hl hf => ?_) N (0 : Int32) t_toldLength t_toldRigging _ _ _ hw (lv_sub hl [1, 2, 0] rfl) hf
    refine lv_iconst (v := (0 : Int32)) hx hb dX7_strings_158 (by decide) ?_
    refine lv_istore_n (lv' := [(2, .int (0 : Int32)), (0, .ref q_t), (1, .int p1)]) hx hb dX7_strings_159 rfl hl (by decide) rfl (fun ls hl => ?_)
    refine Lp160 p1 u4 u4 u5 u6 u34 u35 _ (fun u41 H locs ls hw hl hf => ?_) N (0 : Int32) t_toldRoom _ _ _ hw (lv_sub hl [1, 2, 0] rfl) hf
    refine lv_aload_n hx hb dX7_strings_191 rfl (lv_at hl 0 rfl) ?_
    refine g_get (ci := 7) (C := RX7) (T := TX7) (N := 22) S hinX7 hK hw 0 5 k87 dX7_strings_192 rfl rfl (by decide) rfl ?_
    obtain ⟨rfl, rfl, rfl, rfl, rfl, rfl, rfl, rfl⟩ := pr8 (Option.some.inj hf)
    exact rt_i S hr hlk hw dX7_strings_195
  · have hf := (if_pos c3).symm.trans hf
    refine lv_bipush (v := (-2 : Int32)) hx hb dX7_strings_11 (by decide) ?_
    obtain ⟨rfl, rfl, rfl, rfl, rfl, rfl, rfl, rfl⟩ := pr8 (Option.some.inj hf)
    exact rt_i S hr hlk hw dX7_strings_13

def f_X7_string (N : Nat) (p1 : Int32) (p2 : Int32) (t_told : Int32) (t_toldLength : (Nat → Int32)) (t_toldRigging : (Nat → Int32)) (t_toldRoom : (Nat → Int32)) : Option (Int32) :=
  (bd1 (f_X7_in N p1 (0 : Int32) (t_told - (1 : Int32))) (fun r1 => (if r1 = (0 : Int32) then (some (-1000 : Int32)) else (bd1 (f_X7_in N p2 (0 : Int32) (2 : Int32)) (fun r4 => (if r4 = (0 : Int32) then (some (-1000 : Int32)) else (if p2 = (0 : Int32) then (ck (inb p1 241) (some (t_toldLength p1.toNatClampNeg))) else (if p2 = (1 : Int32) then (ck (inb p1 241) (some (t_toldRigging p1.toNatClampNeg))) else (ck (inb p1 241) (some (t_toldRoom p1.toNatClampNeg)))))))))))

set_option maxHeartbeats 4000000 in
set_option maxRecDepth 100000 in
theorem c_X7_string (l : Launch) (D : va_G) (cI cZ cJ cO : ClassId) (sz : Nat) (q_t q_t_boxes q_t_next q_t_left q_t_pairs q_t_lengths q_t_riggings q_t_toldLength q_t_toldRigging q_t_toldRoom q_t_ring q_t_was q_t_saved q_t_isThere q_t_forms q_t_sizes q_t_items q_t_moved : Nat) (N : Nat) (p1 : Int32) (p2 : Int32) (t_done : Int32) (t_many : Int32) (t_told : Int32) (t_ringN : Int32) (t_finding : Int32) (t_toldLength : (Nat → Int32)) (t_toldRigging : (Nat → Int32)) (t_toldRoom : (Nat → Int32)) (r : Int32) (hf : f_X7_string N p1 p2 t_told t_toldLength t_toldRigging t_toldRoom = some r) : Met l yX7_string wsX7_string ({ frames := 1, cells := 0, slots := 0, locals := 22 }) (PreC D (TY cI cZ cJ cO) [.ref q_t, .int p1, .int p2] [(q_t, .inr (7, [.ref q_t_boxes, .ref q_t_next, .int t_done, .ref q_t_left, .ref q_t_pairs, .int t_many, .ref q_t_lengths, .ref q_t_riggings, .int t_told, .ref q_t_toldLength, .ref q_t_toldRigging, .ref q_t_toldRoom, .int t_ringN, .ref q_t_ring, .ref q_t_was, .ref q_t_saved, .ref q_t_isThere, .ref q_t_forms, .ref q_t_sizes, .ref q_t_items, .ref q_t_moved, .int t_finding])), (q_t_toldLength, .inl (cI, 241, .inl t_toldLength)), (q_t_toldRigging, .inl (cI, 241, .inl t_toldRigging)), (q_t_toldRoom, .inl (cI, 241, .inl t_toldRoom))] sz) (QcI D [(q_t, .inr (7, [.ref q_t_boxes, .ref q_t_next, .int t_done, .ref q_t_left, .ref q_t_pairs, .int t_many, .ref q_t_lengths, .ref q_t_riggings, .int t_told, .ref q_t_toldLength, .ref q_t_toldRigging, .ref q_t_toldRoom, .int t_ringN, .ref q_t_ring, .ref q_t_was, .ref q_t_saved, .ref q_t_isThere, .ref q_t_forms, .ref q_t_sizes, .ref q_t_items, .ref q_t_moved, .int t_finding])), (q_t_toldLength, .inl (cI, 241, .inl t_toldLength)), (q_t_toldRigging, .inl (cI, 241, .inl t_toldRigging)), (q_t_toldRoom, .inl (cI, 241, .inl t_toldRoom))] (va_A [(q_t, .inr (7, [.ref q_t_boxes, .ref q_t_next, .int t_done, .ref q_t_left, .ref q_t_pairs, .int t_many, .ref q_t_lengths, .ref q_t_riggings, .int t_told, .ref q_t_toldLength, .ref q_t_toldRigging, .ref q_t_toldRoom, .int t_ringN, .ref q_t_ring, .ref q_t_was, .ref q_t_saved, .ref q_t_isThere, .ref q_t_forms, .ref q_t_sizes, .ref q_t_items, .ref q_t_moved, .int t_finding])), (q_t_toldLength, .inl (cI, 241, .inl t_toldLength)), (q_t_toldRigging, .inl (cI, 241, .inl t_toldRigging)), (q_t_toldRoom, .inl (cI, 241, .inl t_toldRoom))] sz) r) 0 0 (va_A [(q_t, .inr (7, [.ref q_t_boxes, .ref q_t_next, .int t_done, .ref q_t_left, .ref q_t_pairs, .int t_many, .ref q_t_lengths, .ref q_t_riggings, .int t_told, .ref q_t_toldLength, .ref q_t_toldRigging, .ref q_t_toldRoom, .int t_ringN, .ref q_t_ring, .ref q_t_was, .ref q_t_saved, .ref q_t_isThere, .ref q_t_forms, .ref q_t_sizes, .ref q_t_items, .ref q_t_moved, .int t_finding])), (q_t_toldLength, .inl (cI, 241, .inl t_toldLength)), (q_t_toldRigging, .inl (cI, 241, .inl t_toldRigging)), (q_t_toldRoom, .inl (cI, 241, .inl t_toldRoom))] sz) := by
  refine ctr (cc := cX7_string) (maxL := 3) (ret := (some .int)) (by decide) rfl (Nat.le_of_ble_eq_true rfl) ?_
  intro p e s m below meth c S hr hlk hnm hK hN hsz hA hw ls hl
  generalize va_A [(q_t, .inr (7, [.ref q_t_boxes, .ref q_t_next, .int t_done, .ref q_t_left, .ref q_t_pairs, .int t_many, .ref q_t_lengths, .ref q_t_riggings, .int t_told, .ref q_t_toldLength, .ref q_t_toldRigging, .ref q_t_toldRoom, .int t_ringN, .ref q_t_ring, .ref q_t_was, .ref q_t_saved, .ref q_t_isThere, .ref q_t_forms, .ref q_t_sizes, .ref q_t_items, .ref q_t_moved, .int t_finding])), (q_t_toldLength, .inl (cI, 241, .inl t_toldLength)), (q_t_toldRigging, .inl (cI, 241, .inl t_toldRigging)), (q_t_toldRoom, .inl (cI, 241, .inl t_toldRoom))] sz = A at hA hw ⊢
  have S : CallFix p m c cX7_string 3 s ([.ref q_t, .int p1, .int p2] : List Value).toArray wsX7_string RX7 := S
  have hx := S.1
  have hb := S.2.1
  have hts := S.2.2.2.2
  have hl : lv_has ls 3 [(0, .ref q_t), (1, .int p1), (2, .int p2)] := hl
  have hinX7 : ∀ w ∈ u_ws RX7 TX7 22, w ∈ wsX7_string := by decide +kernel
  have k29 : Cond.fieldLink RX7 29 "BallBoxesModel" "toldLength" "[I" ∈ wsX7_string := by decide +kernel
  have k32 : Cond.fieldLink RX7 32 "BallBoxesModel" "toldRigging" "[I" ∈ wsX7_string := by decide +kernel
  have k35 : Cond.fieldLink RX7 35 "BallBoxesModel" "toldRoom" "[I" ∈ wsX7_string := by decide +kernel
  have k104 : Cond.fieldLink RX7 104 "BallBoxesModel" "told" "I" ∈ wsX7_string := by decide +kernel
  unfold f_X7_string at hf
  refine lv_iload_n hx hb dX7_string_0 rfl (lv_at hl 1 rfl) ?_
  refine lv_iconst (v := (0 : Int32)) hx hb dX7_string_1 (by decide) ?_
  refine lv_aload_n hx hb dX7_string_2 rfl (lv_at hl 0 rfl) ?_
  refine g_get (ci := 7) (C := RX7) (T := TX7) (N := 22) S hinX7 hK hw 0 8 k104 dX7_string_3 rfl rfl (by decide) rfl ?_
  refine lv_iconst (v := (1 : Int32)) hx hb dX7_string_6 (by decide) ?_
  refine lv_isub hx hb dX7_string_7 ?_
  obtain ⟨r1, h2, hf⟩ := bd1_some hf
  refine cl_i (wr := [(q_t, .inr (7, [.ref q_t_boxes, .ref q_t_next, .int t_done, .ref q_t_left, .ref q_t_pairs, .int t_many, .ref q_t_lengths, .ref q_t_riggings, .int t_told, .ref q_t_toldLength, .ref q_t_toldRigging, .ref q_t_toldRoom, .int t_ringN, .ref q_t_ring, .ref q_t_was, .ref q_t_saved, .ref q_t_isThere, .ref q_t_forms, .ref q_t_sizes, .ref q_t_items, .ref q_t_moved, .int t_finding])), (q_t_toldLength, .inl (cI, 241, .inl t_toldLength)), (q_t_toldRigging, .inl (cI, 241, .inl t_toldRigging)), (q_t_toldRoom, .inl (cI, 241, .inl t_toldRoom))]) (ws' := [(q_t, .inr (7, [.ref q_t_boxes, .ref q_t_next, .int t_done, .ref q_t_left, .ref q_t_pairs, .int t_many, .ref q_t_lengths, .ref q_t_riggings, .int t_told, .ref q_t_toldLength, .ref q_t_toldRigging, .ref q_t_toldRoom, .int t_ringN, .ref q_t_ring, .ref q_t_was, .ref q_t_saved, .ref q_t_isThere, .ref q_t_forms, .ref q_t_sizes, .ref q_t_items, .ref q_t_moved, .int t_finding])), (q_t_toldLength, .inl (cI, 241, .inl t_toldLength)), (q_t_toldRigging, .inl (cI, 241, .inl t_toldRigging)), (q_t_toldRoom, .inl (cI, 241, .inl t_toldRoom))]) hA hw [] [0, 1, 2, 3] [0, 1, 2, 3] rfl rfl rfl (by decide) rfl rfl (va_runS (As := [.int p1, .int (0 : Int32), .int (t_told - (1 : Int32))]) (rest := []) S (c_X7_in l D cI cZ cJ cO _ N p1 (0 : Int32) (t_told - (1 : Int32)) r1 h2) (va_cwS 3 hts gX7_string_X7_in rfl rfl rfl (by decide +kernel) ⟨Nat.le_of_ble_eq_true rfl, Nat.le_of_ble_eq_true rfl⟩) (pre_S hK hN hw [] rfl rfl) rfl rfl hl.1 rfl (lv_room (Nat.le_of_ble_eq_true rfl)) dX7_string_8 ⟨Nat.zero_le _, Nat.zero_le _⟩) (fun H locs hw => ?_)
  refine lv_if_eq (tgt := 23) hx hb dX7_string_11 (by decide) (fun c3 => ?_) (fun c3 => ?_)
  · have hf := (if_pos c3).symm.trans hf
    refine lv_sipush (v := (-1000 : Int32)) hx hb dX7_string_23 (by decide) ?_
    obtain rfl := Option.some.inj hf
    exact rt_i S hr hlk hw dX7_string_26
  · have hf := (if_neg c3).symm.trans hf
    refine lv_iload_n hx hb dX7_string_14 rfl (lv_at hl 2 rfl) ?_
    refine lv_iconst (v := (0 : Int32)) hx hb dX7_string_15 (by decide) ?_
    refine lv_iconst (v := (2 : Int32)) hx hb dX7_string_16 (by decide) ?_
    obtain ⟨r4, h5, hf⟩ := bd1_some hf
    refine cl_i (wr := [(q_t, .inr (7, [.ref q_t_boxes, .ref q_t_next, .int t_done, .ref q_t_left, .ref q_t_pairs, .int t_many, .ref q_t_lengths, .ref q_t_riggings, .int t_told, .ref q_t_toldLength, .ref q_t_toldRigging, .ref q_t_toldRoom, .int t_ringN, .ref q_t_ring, .ref q_t_was, .ref q_t_saved, .ref q_t_isThere, .ref q_t_forms, .ref q_t_sizes, .ref q_t_items, .ref q_t_moved, .int t_finding])), (q_t_toldLength, .inl (cI, 241, .inl t_toldLength)), (q_t_toldRigging, .inl (cI, 241, .inl t_toldRigging)), (q_t_toldRoom, .inl (cI, 241, .inl t_toldRoom))]) (ws' := [(q_t, .inr (7, [.ref q_t_boxes, .ref q_t_next, .int t_done, .ref q_t_left, .ref q_t_pairs, .int t_many, .ref q_t_lengths, .ref q_t_riggings, .int t_told, .ref q_t_toldLength, .ref q_t_toldRigging, .ref q_t_toldRoom, .int t_ringN, .ref q_t_ring, .ref q_t_was, .ref q_t_saved, .ref q_t_isThere, .ref q_t_forms, .ref q_t_sizes, .ref q_t_items, .ref q_t_moved, .int t_finding])), (q_t_toldLength, .inl (cI, 241, .inl t_toldLength)), (q_t_toldRigging, .inl (cI, 241, .inl t_toldRigging)), (q_t_toldRoom, .inl (cI, 241, .inl t_toldRoom))]) hA hw [] [0, 1, 2, 3] [0, 1, 2, 3] rfl rfl rfl (by decide) rfl rfl (va_runS (As := [.int p2, .int (0 : Int32), .int (2 : Int32)]) (rest := []) S (c_X7_in l D cI cZ cJ cO _ N p2 (0 : Int32) (2 : Int32) r4 h5) (va_cwS 3 hts gX7_string_X7_in rfl rfl rfl (by decide +kernel) ⟨Nat.le_of_ble_eq_true rfl, Nat.le_of_ble_eq_true rfl⟩) (pre_S hK hN hw [] rfl rfl) rfl rfl hl.1 rfl (lv_room (Nat.le_of_ble_eq_true rfl)) dX7_string_17 ⟨Nat.zero_le _, Nat.zero_le _⟩) (fun H locs hw => ?_)
    refine lv_if_ne (tgt := 27) hx hb dX7_string_20 (by decide) (fun c6 => ?_) (fun c6 => ?_)
    · have hf := (if_neg c6).symm.trans hf
      refine lv_iload_n hx hb dX7_string_27 rfl (lv_at hl 2 rfl) ?_
      refine lv_if_ne (tgt := 40) hx hb dX7_string_28 (by decide) (fun c7 => ?_) (fun c7 => ?_)
      · have hf := (if_neg c7).symm.trans hf
        refine lv_iload_n hx hb dX7_string_40 rfl (lv_at hl 2 rfl) ?_
        refine lv_iconst (v := (1 : Int32)) hx hb dX7_string_41 (by decide) ?_
        refine lv_icmp_ne (tgt := 54) hx hb dX7_string_42 (by decide) (fun c8 => ?_) (fun c8 => ?_)
        · have hf := (if_neg c8).symm.trans hf
          refine lv_aload_n hx hb dX7_string_54 rfl (lv_at hl 0 rfl) ?_
          refine g_get (ci := 7) (C := RX7) (T := TX7) (N := 22) S hinX7 hK hw 0 11 k35 dX7_string_55 rfl rfl (by decide) rfl ?_
          refine lv_iload_n hx hb dX7_string_58 rfl (lv_at hl 1 rfl) ?_
          obtain ⟨b9, hf⟩ := ck_some hf
          refine g_iald S hK hw 3 0 b9 dX7_string_59 rfl rfl ?_
          obtain rfl := Option.some.inj hf
          exact rt_i S hr hlk hw dX7_string_60
        · have hf := (if_pos c8).symm.trans hf
          refine lv_aload_n hx hb dX7_string_45 rfl (lv_at hl 0 rfl) ?_
          refine g_get (ci := 7) (C := RX7) (T := TX7) (N := 22) S hinX7 hK hw 0 10 k32 dX7_string_46 rfl rfl (by decide) rfl ?_
          refine lv_iload_n hx hb dX7_string_49 rfl (lv_at hl 1 rfl) ?_
          obtain ⟨b10, hf⟩ := ck_some hf
          refine g_iald S hK hw 2 0 b10 dX7_string_50 rfl rfl ?_
          refine lv_goto (tgt := 60) hx hb dX7_string_51 (by decide) ?_
          obtain rfl := Option.some.inj hf
          exact rt_i S hr hlk hw dX7_string_60
      · have hf := (if_pos c7).symm.trans hf
        refine lv_aload_n hx hb dX7_string_31 rfl (lv_at hl 0 rfl) ?_
        refine g_get (ci := 7) (C := RX7) (T := TX7) (N := 22) S hinX7 hK hw 0 9 k29 dX7_string_32 rfl rfl (by decide) rfl ?_
        refine lv_iload_n hx hb dX7_string_35 rfl (lv_at hl 1 rfl) ?_
        obtain ⟨b11, hf⟩ := ck_some hf
        refine g_iald S hK hw 1 0 b11 dX7_string_36 rfl rfl ?_
        refine lv_goto (tgt := 60) hx hb dX7_string_37 (by decide) ?_
        obtain rfl := Option.some.inj hf
        exact rt_i S hr hlk hw dX7_string_60
    · have hf := (if_pos c6).symm.trans hf
      refine lv_sipush (v := (-1000 : Int32)) hx hb dX7_string_23 (by decide) ?_
      obtain rfl := Option.some.inj hf
      exact rt_i S hr hlk hw dX7_string_26

def L_X7_leap_38 (N : Nat) (x1 : Int32) (x2 : Int32) (w_t_many : Int32) (w_t_lengths : (Nat → Int32)) (K : Int32 → (Nat → Int32) → Option (Int32 × Int32 × Int32 × (Nat → Int32) × (Nat → Int32) × (Nat → Int32) × (Nat → Int32))) : Nat → Int32 → Int32 → (Nat → Int32) → Option (Int32 × Int32 × Int32 × (Nat → Int32) × (Nat → Int32) × (Nat → Int32) × (Nat → Int32))
  | 0, _, _, _ => none
  | n + 1, x3, x4, w_t_riggings => (if w_t_many ≤ x4 then (K x3 w_t_riggings) else (ck (inb x4 241) (ck (inb x4 241) (if (w_t_lengths x4.toNatClampNeg) ≤ x1 then (ck (inb x4 241) (ck (inb x4 241) (ck (inb x4 241) (ck (inb x4 241) (bd1 (f_X7_room N (w_t_lengths x4.toNatClampNeg) (240 : Int32) w_t_many w_t_lengths) (fun r19 => (if r19 < ((upd w_t_riggings x4.toNatClampNeg ((w_t_riggings x4.toNatClampNeg) + (x2 * (w_t_lengths x4.toNatClampNeg)))) x4.toNatClampNeg) then (L_X7_leap_38 N x1 x2 w_t_many w_t_lengths K n (x3 &&& (0 : Int32)) (x4 + (1 : Int32)) (upd w_t_riggings x4.toNatClampNeg ((w_t_riggings x4.toNatClampNeg) + (x2 * (w_t_lengths x4.toNatClampNeg))))) else (L_X7_leap_38 N x1 x2 w_t_many w_t_lengths K n (x3 &&& (1 : Int32)) (x4 + (1 : Int32)) (upd w_t_riggings x4.toNatClampNeg ((w_t_riggings x4.toNatClampNeg) + (x2 * (w_t_lengths x4.toNatClampNeg)))))))))))) else (ck (inb x4 241) (ck (inb x4 241) (ck (inb x4 241) (bd1 (f_X7_room N (w_t_lengths x4.toNatClampNeg) (240 : Int32) w_t_many w_t_lengths) (fun r25 => (if r25 < ((upd w_t_riggings x4.toNatClampNeg ((w_t_riggings x4.toNatClampNeg) + (x2 * x1))) x4.toNatClampNeg) then (L_X7_leap_38 N x1 x2 w_t_many w_t_lengths K n (x3 &&& (0 : Int32)) (x4 + (1 : Int32)) (upd w_t_riggings x4.toNatClampNeg ((w_t_riggings x4.toNatClampNeg) + (x2 * x1)))) else (L_X7_leap_38 N x1 x2 w_t_many w_t_lengths K n (x3 &&& (1 : Int32)) (x4 + (1 : Int32)) (upd w_t_riggings x4.toNatClampNeg ((w_t_riggings x4.toNatClampNeg) + (x2 * x1))))))))))))))

def f_X7_leap (N : Nat) (p1 : Int32) (p2 : Int32) (t_done : Int32) (t_many : Int32) (t_boxes : (Nat → Int32)) (t_next : (Nat → Int32)) (t_lengths : (Nat → Int32)) (t_riggings : (Nat → Int32)) : Option (Int32 × Int32 × Int32 × (Nat → Int32) × (Nat → Int32) × (Nat → Int32) × (Nat → Int32)) :=
  (bd1 (f_X7_in N p1 (1 : Int32) (50 : Int32)) (fun r1 => (if r1 = (0 : Int32) then (some ((-2 : Int32), t_done, t_many, t_boxes, t_next, t_lengths, t_riggings)) else (bd1 (f_X7_in N p2 (-1000 : Int32) (1000 : Int32)) (fun r4 => (if r4 = (0 : Int32) then (some ((-2 : Int32), t_done, t_many, t_boxes, t_next, t_lengths, t_riggings)) else (bd3 (f_X7_reads N (240 : Int32) t_many t_boxes t_lengths t_riggings) (fun u7 u8 u9 => (L_X7_leap_38 N p1 p2 u7 u8 (fun y28 u29 => (if y28 = (0 : Int32) then (some ((-4 : Int32), t_done, u7, t_boxes, t_next, u8, u29)) else (bd5 (f_X7_makes N u7 t_next u8 u29) (fun r31 u32 u33 u34 u35 => (if r31 = (0 : Int32) then (some ((-4 : Int32), t_done, u32, t_boxes, u33, u34, u35)) else (bd3 (f_X7_takes N t_done t_boxes u33) (fun r38 u39 u40 => (some (r38, u39, u32, u40, u33, u34, u35))))))))) N (1 : Int32) (0 : Int32) u9)))))))))

set_option maxHeartbeats 4000000 in
set_option maxRecDepth 100000 in
theorem c_X7_leap (l : Launch) (D : va_G) (cI cZ cJ cO : ClassId) (sz : Nat) (q_t q_t_boxes q_t_next q_t_left q_t_pairs q_t_lengths q_t_riggings q_t_toldLength q_t_toldRigging q_t_toldRoom q_t_ring q_t_was q_t_saved q_t_isThere q_t_forms q_t_sizes q_t_items q_t_moved : Nat) (N : Nat) (p1 : Int32) (p2 : Int32) (t_done : Int32) (t_many : Int32) (t_told : Int32) (t_ringN : Int32) (t_finding : Int32) (t_boxes : (Nat → Int32)) (t_next : (Nat → Int32)) (t_lengths : (Nat → Int32)) (t_riggings : (Nat → Int32)) (r : Int32) (o_t_done : Int32) (o_t_many : Int32) (o_t_boxes : (Nat → Int32)) (o_t_next : (Nat → Int32)) (o_t_lengths : (Nat → Int32)) (o_t_riggings : (Nat → Int32)) (hf : f_X7_leap N p1 p2 t_done t_many t_boxes t_next t_lengths t_riggings = some (r, o_t_done, o_t_many, o_t_boxes, o_t_next, o_t_lengths, o_t_riggings)) : Met l yX7_leap wsX7_leap ({ frames := 3, cells := 0, slots := 0, locals := 72 }) (PreC D (TY cI cZ cJ cO) [.ref q_t, .int p1, .int p2] [(q_t, .inr (7, [.ref q_t_boxes, .ref q_t_next, .int t_done, .ref q_t_left, .ref q_t_pairs, .int t_many, .ref q_t_lengths, .ref q_t_riggings, .int t_told, .ref q_t_toldLength, .ref q_t_toldRigging, .ref q_t_toldRoom, .int t_ringN, .ref q_t_ring, .ref q_t_was, .ref q_t_saved, .ref q_t_isThere, .ref q_t_forms, .ref q_t_sizes, .ref q_t_items, .ref q_t_moved, .int t_finding])), (q_t_boxes, .inl (cZ, 240, .inl t_boxes)), (q_t_next, .inl (cZ, 240, .inl t_next)), (q_t_lengths, .inl (cI, 241, .inl t_lengths)), (q_t_riggings, .inl (cI, 241, .inl t_riggings))] sz) (QcI D [(q_t, .inr (7, [.ref q_t_boxes, .ref q_t_next, .int o_t_done, .ref q_t_left, .ref q_t_pairs, .int o_t_many, .ref q_t_lengths, .ref q_t_riggings, .int t_told, .ref q_t_toldLength, .ref q_t_toldRigging, .ref q_t_toldRoom, .int t_ringN, .ref q_t_ring, .ref q_t_was, .ref q_t_saved, .ref q_t_isThere, .ref q_t_forms, .ref q_t_sizes, .ref q_t_items, .ref q_t_moved, .int t_finding])), (q_t_boxes, .inl (cZ, 240, .inl o_t_boxes)), (q_t_next, .inl (cZ, 240, .inl o_t_next)), (q_t_lengths, .inl (cI, 241, .inl o_t_lengths)), (q_t_riggings, .inl (cI, 241, .inl o_t_riggings))] (va_A [(q_t, .inr (7, [.ref q_t_boxes, .ref q_t_next, .int t_done, .ref q_t_left, .ref q_t_pairs, .int t_many, .ref q_t_lengths, .ref q_t_riggings, .int t_told, .ref q_t_toldLength, .ref q_t_toldRigging, .ref q_t_toldRoom, .int t_ringN, .ref q_t_ring, .ref q_t_was, .ref q_t_saved, .ref q_t_isThere, .ref q_t_forms, .ref q_t_sizes, .ref q_t_items, .ref q_t_moved, .int t_finding])), (q_t_boxes, .inl (cZ, 240, .inl t_boxes)), (q_t_next, .inl (cZ, 240, .inl t_next)), (q_t_lengths, .inl (cI, 241, .inl t_lengths)), (q_t_riggings, .inl (cI, 241, .inl t_riggings))] sz) r) 0 0 (va_A [(q_t, .inr (7, [.ref q_t_boxes, .ref q_t_next, .int t_done, .ref q_t_left, .ref q_t_pairs, .int t_many, .ref q_t_lengths, .ref q_t_riggings, .int t_told, .ref q_t_toldLength, .ref q_t_toldRigging, .ref q_t_toldRoom, .int t_ringN, .ref q_t_ring, .ref q_t_was, .ref q_t_saved, .ref q_t_isThere, .ref q_t_forms, .ref q_t_sizes, .ref q_t_items, .ref q_t_moved, .int t_finding])), (q_t_boxes, .inl (cZ, 240, .inl t_boxes)), (q_t_next, .inl (cZ, 240, .inl t_next)), (q_t_lengths, .inl (cI, 241, .inl t_lengths)), (q_t_riggings, .inl (cI, 241, .inl t_riggings))] sz) := by
  refine ctr (cc := cX7_leap) (maxL := 5) (ret := (some .int)) (by decide) rfl (Nat.le_of_ble_eq_true rfl) ?_
  intro p e s m below meth c S hr hlk hnm hK hN hsz hA hw ls hl
  generalize va_A [(q_t, .inr (7, [.ref q_t_boxes, .ref q_t_next, .int t_done, .ref q_t_left, .ref q_t_pairs, .int t_many, .ref q_t_lengths, .ref q_t_riggings, .int t_told, .ref q_t_toldLength, .ref q_t_toldRigging, .ref q_t_toldRoom, .int t_ringN, .ref q_t_ring, .ref q_t_was, .ref q_t_saved, .ref q_t_isThere, .ref q_t_forms, .ref q_t_sizes, .ref q_t_items, .ref q_t_moved, .int t_finding])), (q_t_boxes, .inl (cZ, 240, .inl t_boxes)), (q_t_next, .inl (cZ, 240, .inl t_next)), (q_t_lengths, .inl (cI, 241, .inl t_lengths)), (q_t_riggings, .inl (cI, 241, .inl t_riggings))] sz = A at hA hw ⊢
  have S : CallFix p m c cX7_leap 5 s ([.ref q_t, .int p1, .int p2] : List Value).toArray wsX7_leap RX7 := S
  have hx := S.1
  have hb := S.2.1
  have hts := S.2.2.2.2
  have hl : lv_has ls 5 [(0, .ref q_t), (1, .int p1), (2, .int p2)] := hl
  have hinX7 : ∀ w ∈ u_ws RX7 TX7 22, w ∈ wsX7_leap := by decide +kernel
  have k23 : Cond.fieldLink RX7 23 "BallBoxesModel" "lengths" "[I" ∈ wsX7_leap := by decide +kernel
  have k26 : Cond.fieldLink RX7 26 "BallBoxesModel" "riggings" "[I" ∈ wsX7_leap := by decide +kernel
  have k87 : Cond.fieldLink RX7 87 "BallBoxesModel" "many" "I" ∈ wsX7_leap := by decide +kernel
  have Lp38 : ∀ (x1 : Int32) (x2 : Int32) (w_t_done : Int32) (w_t_many : Int32) (w_t_boxes : (Nat → Int32)) (w_t_next : (Nat → Int32)) (w_t_lengths : (Nat → Int32)) (K : Int32 → (Nat → Int32) → Option (Int32 × Int32 × Int32 × (Nat → Int32) × (Nat → Int32) × (Nat → Int32) × (Nat → Int32))), (∀ (z3 : Int32) (z_t_riggings : (Nat → Int32)) (H : Heap) (locs : List Loc) (ls : Array Slot), Wd D A s.heap [(q_t, .inr (7, [.ref q_t_boxes, .ref q_t_next, .int w_t_done, .ref q_t_left, .ref q_t_pairs, .int w_t_many, .ref q_t_lengths, .ref q_t_riggings, .int t_told, .ref q_t_toldLength, .ref q_t_toldRigging, .ref q_t_toldRoom, .int t_ringN, .ref q_t_ring, .ref q_t_was, .ref q_t_saved, .ref q_t_isThere, .ref q_t_forms, .ref q_t_sizes, .ref q_t_items, .ref q_t_moved, .int t_finding])), (q_t_boxes, .inl (cZ, 240, .inl w_t_boxes)), (q_t_next, .inl (cZ, 240, .inl w_t_next)), (q_t_lengths, .inl (cI, 241, .inl w_t_lengths)), (q_t_riggings, .inl (cI, 241, .inl z_t_riggings))] H locs → lv_has ls 5 [(0, .ref q_t), (3, .int z3)] → K z3 z_t_riggings = some (r, o_t_done, o_t_many, o_t_boxes, o_t_next, o_t_lengths, o_t_riggings) → W p l e ({ frames := 3, cells := 0, slots := 0, locals := 72 } : Room) s m ([.ref q_t, .int p1, .int p2] : List Value).toArray below meth c H locs 0 0 (MQ below (QcI D [(q_t, .inr (7, [.ref q_t_boxes, .ref q_t_next, .int o_t_done, .ref q_t_left, .ref q_t_pairs, .int o_t_many, .ref q_t_lengths, .ref q_t_riggings, .int t_told, .ref q_t_toldLength, .ref q_t_toldRigging, .ref q_t_toldRoom, .int t_ringN, .ref q_t_ring, .ref q_t_was, .ref q_t_saved, .ref q_t_isThere, .ref q_t_forms, .ref q_t_sizes, .ref q_t_items, .ref q_t_moved, .int t_finding])), (q_t_boxes, .inl (cZ, 240, .inl o_t_boxes)), (q_t_next, .inl (cZ, 240, .inl o_t_next)), (q_t_lengths, .inl (cI, 241, .inl o_t_lengths)), (q_t_riggings, .inl (cI, 241, .inl o_t_riggings))] A r) ([.ref q_t, .int p1, .int p2] : List Value).toArray s 0 0 A) (F0 m 119 ls [])) → ∀ (n : Nat) (x3 : Int32) (x4 : Int32) (w_t_riggings : (Nat → Int32)) (H : Heap) (locs : List Loc) (ls : Array Slot), Wd D A s.heap [(q_t, .inr (7, [.ref q_t_boxes, .ref q_t_next, .int w_t_done, .ref q_t_left, .ref q_t_pairs, .int w_t_many, .ref q_t_lengths, .ref q_t_riggings, .int t_told, .ref q_t_toldLength, .ref q_t_toldRigging, .ref q_t_toldRoom, .int t_ringN, .ref q_t_ring, .ref q_t_was, .ref q_t_saved, .ref q_t_isThere, .ref q_t_forms, .ref q_t_sizes, .ref q_t_items, .ref q_t_moved, .int t_finding])), (q_t_boxes, .inl (cZ, 240, .inl w_t_boxes)), (q_t_next, .inl (cZ, 240, .inl w_t_next)), (q_t_lengths, .inl (cI, 241, .inl w_t_lengths)), (q_t_riggings, .inl (cI, 241, .inl w_t_riggings))] H locs → lv_has ls 5 [(0, .ref q_t), (1, .int x1), (2, .int x2), (3, .int x3), (4, .int x4)] → L_X7_leap_38 N x1 x2 w_t_many w_t_lengths K n x3 x4 w_t_riggings = some (r, o_t_done, o_t_many, o_t_boxes, o_t_next, o_t_lengths, o_t_riggings) → W p l e ({ frames := 3, cells := 0, slots := 0, locals := 72 } : Room) s m ([.ref q_t, .int p1, .int p2] : List Value).toArray below meth c H locs 0 0 (MQ below (QcI D [(q_t, .inr (7, [.ref q_t_boxes, .ref q_t_next, .int o_t_done, .ref q_t_left, .ref q_t_pairs, .int o_t_many, .ref q_t_lengths, .ref q_t_riggings, .int t_told, .ref q_t_toldLength, .ref q_t_toldRigging, .ref q_t_toldRoom, .int t_ringN, .ref q_t_ring, .ref q_t_was, .ref q_t_saved, .ref q_t_isThere, .ref q_t_forms, .ref q_t_sizes, .ref q_t_items, .ref q_t_moved, .int t_finding])), (q_t_boxes, .inl (cZ, 240, .inl o_t_boxes)), (q_t_next, .inl (cZ, 240, .inl o_t_next)), (q_t_lengths, .inl (cI, 241, .inl o_t_lengths)), (q_t_riggings, .inl (cI, 241, .inl o_t_riggings))] A r) ([.ref q_t, .int p1, .int p2] : List Value).toArray s 0 0 A) (F0 m 38 ls []) := by
    intro x1 x2 w_t_done w_t_many w_t_boxes w_t_next w_t_lengths K hKx n
    induction n with
    | zero =>
      intro x3 x4 w_t_riggings H locs ls hw hl hf
      rw [L_X7_leap_38] at hf
      cases hf
    | succ n ih =>
      intro x3 x4 w_t_riggings H locs ls hw hl hf
      rw [L_X7_leap_38] at hf
      refine lv_iload hx hb dX7_leap_38 (lv_at hl 4 rfl) ?_
      refine lv_aload_n hx hb dX7_leap_40 rfl (lv_at hl 0 rfl) ?_
      refine g_get (ci := 7) (C := RX7) (T := TX7) (N := 22) S hinX7 hK hw 0 5 k87 dX7_leap_41 rfl rfl (by decide) rfl ?_
      refine lv_icmp_ge (tgt := 119) hx hb dX7_leap_44 (by decide) (fun c11 => ?_) (fun c11 => ?_)
      · have hf := (if_pos c11).symm.trans hf
        exact hKx x3 w_t_riggings _ _ _ hw (lv_sub hl [0, 3] rfl) hf
      · have hf := (if_neg c11).symm.trans hf
        refine lv_aload_n hx hb dX7_leap_47 rfl (lv_at hl 0 rfl) ?_
        refine g_get (ci := 7) (C := RX7) (T := TX7) (N := 22) S hinX7 hK hw 0 7 k26 dX7_leap_48 rfl rfl (by decide) rfl ?_
        refine lv_iload hx hb dX7_leap_51 (lv_at hl 4 rfl) ?_
        refine lv_dup2_11 hx hb dX7_leap_53 rfl rfl ?_
        obtain ⟨b12, hf⟩ := ck_some hf
        refine g_iald S hK hw 4 0 b12 dX7_leap_54 rfl rfl ?_
        refine lv_iload_n hx hb dX7_leap_55 rfl (lv_at hl 2 rfl) ?_
        refine lv_iload_n hx hb dX7_leap_56 rfl (lv_at hl 1 rfl) ?_
        refine lv_aload_n hx hb dX7_leap_57 rfl (lv_at hl 0 rfl) ?_
        refine g_get (ci := 7) (C := RX7) (T := TX7) (N := 22) S hinX7 hK hw 0 6 k23 dX7_leap_58 rfl rfl (by decide) rfl ?_
        refine lv_iload hx hb dX7_leap_61 (lv_at hl 4 rfl) ?_
        obtain ⟨b13, hf⟩ := ck_some hf
        refine g_iald S hK hw 3 0 b13 dX7_leap_63 rfl rfl ?_
        refine lv_icmp_ge (tgt := 71) hx hb dX7_leap_64 (by decide) (fun c14 => ?_) (fun c14 => ?_)
        · have hf := (if_pos c14).symm.trans hf
          refine lv_aload_n hx hb dX7_leap_71 rfl (lv_at hl 0 rfl) ?_
          refine g_get (ci := 7) (C := RX7) (T := TX7) (N := 22) S hinX7 hK hw 0 6 k23 dX7_leap_72 rfl rfl (by decide) rfl ?_
          refine lv_iload hx hb dX7_leap_75 (lv_at hl 4 rfl) ?_
          obtain ⟨b15, hf⟩ := ck_some hf
          refine g_iald S hK hw 3 0 b15 dX7_leap_77 rfl rfl ?_
          refine lv_imul hx hb dX7_leap_78 ?_
          refine lv_iadd hx hb dX7_leap_79 ?_
          obtain ⟨b16, hf⟩ := ck_some hf
          refine g_iast (ws' := [(q_t, .inr (7, [.ref q_t_boxes, .ref q_t_next, .int w_t_done, .ref q_t_left, .ref q_t_pairs, .int w_t_many, .ref q_t_lengths, .ref q_t_riggings, .int t_told, .ref q_t_toldLength, .ref q_t_toldRigging, .ref q_t_toldRoom, .int t_ringN, .ref q_t_ring, .ref q_t_was, .ref q_t_saved, .ref q_t_isThere, .ref q_t_forms, .ref q_t_sizes, .ref q_t_items, .ref q_t_moved, .int t_finding])), (q_t_boxes, .inl (cZ, 240, .inl w_t_boxes)), (q_t_next, .inl (cZ, 240, .inl w_t_next)), (q_t_lengths, .inl (cI, 241, .inl w_t_lengths)), (q_t_riggings, .inl (cI, 241, .inl (upd w_t_riggings x4.toNatClampNeg ((w_t_riggings x4.toNatClampNeg) + (x2 * (w_t_lengths x4.toNatClampNeg))))))]) S hK hw 4 0 b16 dX7_leap_80 rfl rfl rfl (fun H locs hw => ?_)
          refine lv_iload_n hx hb dX7_leap_81 rfl (lv_at hl 3 rfl) ?_
          refine lv_aload_n hx hb dX7_leap_82 rfl (lv_at hl 0 rfl) ?_
          refine g_get (ci := 7) (C := RX7) (T := TX7) (N := 22) S hinX7 hK hw 0 7 k26 dX7_leap_83 rfl rfl (by decide) rfl ?_
          refine lv_iload hx hb dX7_leap_86 (lv_at hl 4 rfl) ?_
          obtain ⟨b17, hf⟩ := ck_some hf
          refine g_iald S hK hw 4 0 b17 dX7_leap_88 rfl rfl ?_
          refine lv_aload_n hx hb dX7_leap_89 rfl (lv_at hl 0 rfl) ?_
          refine lv_aload_n hx hb dX7_leap_90 rfl (lv_at hl 0 rfl) ?_
          refine g_get (ci := 7) (C := RX7) (T := TX7) (N := 22) S hinX7 hK hw 0 6 k23 dX7_leap_91 rfl rfl (by decide) rfl ?_
          refine lv_iload hx hb dX7_leap_94 (lv_at hl 4 rfl) ?_
          obtain ⟨b18, hf⟩ := ck_some hf
          refine g_iald S hK hw 3 0 b18 dX7_leap_96 rfl rfl ?_
          refine lv_sipush (v := (240 : Int32)) hx hb dX7_leap_97 (by decide) ?_
          obtain ⟨r19, h20, hf⟩ := bd1_some hf
          refine cl_i (wr := [(q_t_boxes, .inl (cZ, 240, .inl w_t_boxes)), (q_t_next, .inl (cZ, 240, .inl w_t_next)), (q_t_riggings, .inl (cI, 241, .inl (upd w_t_riggings x4.toNatClampNeg ((w_t_riggings x4.toNatClampNeg) + (x2 * (w_t_lengths x4.toNatClampNeg))))))]) (ws' := [(q_t, .inr (7, [.ref q_t_boxes, .ref q_t_next, .int w_t_done, .ref q_t_left, .ref q_t_pairs, .int w_t_many, .ref q_t_lengths, .ref q_t_riggings, .int t_told, .ref q_t_toldLength, .ref q_t_toldRigging, .ref q_t_toldRoom, .int t_ringN, .ref q_t_ring, .ref q_t_was, .ref q_t_saved, .ref q_t_isThere, .ref q_t_forms, .ref q_t_sizes, .ref q_t_items, .ref q_t_moved, .int t_finding])), (q_t_boxes, .inl (cZ, 240, .inl w_t_boxes)), (q_t_next, .inl (cZ, 240, .inl w_t_next)), (q_t_lengths, .inl (cI, 241, .inl w_t_lengths)), (q_t_riggings, .inl (cI, 241, .inl (upd w_t_riggings x4.toNatClampNeg ((w_t_riggings x4.toNatClampNeg) + (x2 * (w_t_lengths x4.toNatClampNeg))))))]) hA hw [0, 3] [1, 2, 4] [3, 0, 1, 4, 2] rfl rfl rfl (by decide) rfl rfl (va_runV (As := [.int (w_t_lengths x4.toNatClampNeg), .int (240 : Int32)]) (rest := [.int ((upd w_t_riggings x4.toNatClampNeg ((w_t_riggings x4.toNatClampNeg) + (x2 * (w_t_lengths x4.toNatClampNeg)))) x4.toNatClampNeg), .int x3]) S (c_X7_room l D cI cZ cJ cO _ q_t q_t_boxes q_t_next q_t_left q_t_pairs q_t_lengths q_t_riggings q_t_toldLength q_t_toldRigging q_t_toldRoom q_t_ring q_t_was q_t_saved q_t_isThere q_t_forms q_t_sizes q_t_items q_t_moved N (w_t_lengths x4.toNatClampNeg) (240 : Int32) w_t_done w_t_many t_told t_ringN t_finding w_t_lengths r19 h20) (cwV 2 hts gX7_leap_X7_room rfl rfl rfl (by decide +kernel) ⟨Nat.le_of_ble_eq_true rfl, Nat.le_of_ble_eq_true rfl⟩) (pre_V hK hN hw [0, 3] rfl rfl (C := RX7) (T := TX7) (N := 22) (ci := 7) (q0 := 0) rfl rfl) rfl rfl hl.1 rfl (lv_room (Nat.le_of_ble_eq_true rfl)) dX7_leap_100 ⟨Nat.zero_le _, Nat.zero_le _⟩) (fun H locs hw => ?_)
          refine lv_icmp_gt (tgt := 110) hx hb dX7_leap_103 (by decide) (fun c21 => ?_) (fun c21 => ?_)
          · have hf := (if_pos c21).symm.trans hf
            refine lv_iconst (v := (0 : Int32)) hx hb dX7_leap_110 (by decide) ?_
            refine lv_iand hx hb dX7_leap_111 ?_
            refine lv_istore_n (lv' := [(3, .int (x3 &&& (0 : Int32))), (0, .ref q_t), (1, .int x1), (2, .int x2), (4, .int x4)]) hx hb dX7_leap_112 rfl hl (by decide) rfl (fun ls hl => ?_)
            refine lv_iinc (v := (x4 + (1 : Int32))) (lv' := [(4, .int (x4 + (1 : Int32))), (3, .int (x3 &&& (0 : Int32))), (0, .ref q_t), (1, .int x1), (2, .int x2)]) hx hb dX7_leap_113 hl (k := 4) rfl rfl (by decide) rfl (fun ls hl => ?_)
            refine lv_goto (tgt := 38) hx hb dX7_leap_116 (by decide) ?_
            exact ih (x3 &&& (0 : Int32)) (x4 + (1 : Int32)) (upd w_t_riggings x4.toNatClampNeg ((w_t_riggings x4.toNatClampNeg) + (x2 * (w_t_lengths x4.toNatClampNeg)))) _ _ _ hw (lv_sub hl [2, 3, 4, 1, 0] rfl) hf
          · have hf := (if_neg c21).symm.trans hf
            refine lv_iconst (v := (1 : Int32)) hx hb dX7_leap_106 (by decide) ?_
            refine lv_goto (tgt := 111) hx hb dX7_leap_107 (by decide) ?_
            refine lv_iand hx hb dX7_leap_111 ?_
            refine lv_istore_n (lv' := [(3, .int (x3 &&& (1 : Int32))), (0, .ref q_t), (1, .int x1), (2, .int x2), (4, .int x4)]) hx hb dX7_leap_112 rfl hl (by decide) rfl (fun ls hl => ?_)
            refine lv_iinc (v := (x4 + (1 : Int32))) (lv' := [(4, .int (x4 + (1 : Int32))), (3, .int (x3 &&& (1 : Int32))), (0, .ref q_t), (1, .int x1), (2, .int x2)]) hx hb dX7_leap_113 hl (k := 4) rfl rfl (by decide) rfl (fun ls hl => ?_)
            refine lv_goto (tgt := 38) hx hb dX7_leap_116 (by decide) ?_
            exact ih (x3 &&& (1 : Int32)) (x4 + (1 : Int32)) (upd w_t_riggings x4.toNatClampNeg ((w_t_riggings x4.toNatClampNeg) + (x2 * (w_t_lengths x4.toNatClampNeg)))) _ _ _ hw (lv_sub hl [2, 3, 4, 1, 0] rfl) hf
        · have hf := (if_neg c14).symm.trans hf
          refine lv_iload_n hx hb dX7_leap_67 rfl (lv_at hl 1 rfl) ?_
          refine lv_goto (tgt := 78) hx hb dX7_leap_68 (by decide) ?_
          refine lv_imul hx hb dX7_leap_78 ?_
          refine lv_iadd hx hb dX7_leap_79 ?_
          obtain ⟨b22, hf⟩ := ck_some hf
          refine g_iast (ws' := [(q_t, .inr (7, [.ref q_t_boxes, .ref q_t_next, .int w_t_done, .ref q_t_left, .ref q_t_pairs, .int w_t_many, .ref q_t_lengths, .ref q_t_riggings, .int t_told, .ref q_t_toldLength, .ref q_t_toldRigging, .ref q_t_toldRoom, .int t_ringN, .ref q_t_ring, .ref q_t_was, .ref q_t_saved, .ref q_t_isThere, .ref q_t_forms, .ref q_t_sizes, .ref q_t_items, .ref q_t_moved, .int t_finding])), (q_t_boxes, .inl (cZ, 240, .inl w_t_boxes)), (q_t_next, .inl (cZ, 240, .inl w_t_next)), (q_t_lengths, .inl (cI, 241, .inl w_t_lengths)), (q_t_riggings, .inl (cI, 241, .inl (upd w_t_riggings x4.toNatClampNeg ((w_t_riggings x4.toNatClampNeg) + (x2 * x1)))))]) S hK hw 4 0 b22 dX7_leap_80 rfl rfl rfl (fun H locs hw => ?_)
          refine lv_iload_n hx hb dX7_leap_81 rfl (lv_at hl 3 rfl) ?_
          refine lv_aload_n hx hb dX7_leap_82 rfl (lv_at hl 0 rfl) ?_
          refine g_get (ci := 7) (C := RX7) (T := TX7) (N := 22) S hinX7 hK hw 0 7 k26 dX7_leap_83 rfl rfl (by decide) rfl ?_
          refine lv_iload hx hb dX7_leap_86 (lv_at hl 4 rfl) ?_
          obtain ⟨b23, hf⟩ := ck_some hf
          refine g_iald S hK hw 4 0 b23 dX7_leap_88 rfl rfl ?_
          refine lv_aload_n hx hb dX7_leap_89 rfl (lv_at hl 0 rfl) ?_
          refine lv_aload_n hx hb dX7_leap_90 rfl (lv_at hl 0 rfl) ?_
          refine g_get (ci := 7) (C := RX7) (T := TX7) (N := 22) S hinX7 hK hw 0 6 k23 dX7_leap_91 rfl rfl (by decide) rfl ?_
          refine lv_iload hx hb dX7_leap_94 (lv_at hl 4 rfl) ?_
          obtain ⟨b24, hf⟩ := ck_some hf
          refine g_iald S hK hw 3 0 b24 dX7_leap_96 rfl rfl ?_
          refine lv_sipush (v := (240 : Int32)) hx hb dX7_leap_97 (by decide) ?_
          obtain ⟨r25, h26, hf⟩ := bd1_some hf
          refine cl_i (wr := [(q_t_boxes, .inl (cZ, 240, .inl w_t_boxes)), (q_t_next, .inl (cZ, 240, .inl w_t_next)), (q_t_riggings, .inl (cI, 241, .inl (upd w_t_riggings x4.toNatClampNeg ((w_t_riggings x4.toNatClampNeg) + (x2 * x1)))))]) (ws' := [(q_t, .inr (7, [.ref q_t_boxes, .ref q_t_next, .int w_t_done, .ref q_t_left, .ref q_t_pairs, .int w_t_many, .ref q_t_lengths, .ref q_t_riggings, .int t_told, .ref q_t_toldLength, .ref q_t_toldRigging, .ref q_t_toldRoom, .int t_ringN, .ref q_t_ring, .ref q_t_was, .ref q_t_saved, .ref q_t_isThere, .ref q_t_forms, .ref q_t_sizes, .ref q_t_items, .ref q_t_moved, .int t_finding])), (q_t_boxes, .inl (cZ, 240, .inl w_t_boxes)), (q_t_next, .inl (cZ, 240, .inl w_t_next)), (q_t_lengths, .inl (cI, 241, .inl w_t_lengths)), (q_t_riggings, .inl (cI, 241, .inl (upd w_t_riggings x4.toNatClampNeg ((w_t_riggings x4.toNatClampNeg) + (x2 * x1)))))]) hA hw [0, 3] [1, 2, 4] [3, 0, 1, 4, 2] rfl rfl rfl (by decide) rfl rfl (va_runV (As := [.int (w_t_lengths x4.toNatClampNeg), .int (240 : Int32)]) (rest := [.int ((upd w_t_riggings x4.toNatClampNeg ((w_t_riggings x4.toNatClampNeg) + (x2 * x1))) x4.toNatClampNeg), .int x3]) S (c_X7_room l D cI cZ cJ cO _ q_t q_t_boxes q_t_next q_t_left q_t_pairs q_t_lengths q_t_riggings q_t_toldLength q_t_toldRigging q_t_toldRoom q_t_ring q_t_was q_t_saved q_t_isThere q_t_forms q_t_sizes q_t_items q_t_moved N (w_t_lengths x4.toNatClampNeg) (240 : Int32) w_t_done w_t_many t_told t_ringN t_finding w_t_lengths r25 h26) (cwV 2 hts gX7_leap_X7_room rfl rfl rfl (by decide +kernel) ⟨Nat.le_of_ble_eq_true rfl, Nat.le_of_ble_eq_true rfl⟩) (pre_V hK hN hw [0, 3] rfl rfl (C := RX7) (T := TX7) (N := 22) (ci := 7) (q0 := 0) rfl rfl) rfl rfl hl.1 rfl (lv_room (Nat.le_of_ble_eq_true rfl)) dX7_leap_100 ⟨Nat.zero_le _, Nat.zero_le _⟩) (fun H locs hw => ?_)
          refine lv_icmp_gt (tgt := 110) hx hb dX7_leap_103 (by decide) (fun c27 => ?_) (fun c27 => ?_)
          · have hf := (if_pos c27).symm.trans hf
            refine lv_iconst (v := (0 : Int32)) hx hb dX7_leap_110 (by decide) ?_
            refine lv_iand hx hb dX7_leap_111 ?_
            refine lv_istore_n (lv' := [(3, .int (x3 &&& (0 : Int32))), (0, .ref q_t), (1, .int x1), (2, .int x2), (4, .int x4)]) hx hb dX7_leap_112 rfl hl (by decide) rfl (fun ls hl => ?_)
            refine lv_iinc (v := (x4 + (1 : Int32))) (lv' := [(4, .int (x4 + (1 : Int32))), (3, .int (x3 &&& (0 : Int32))), (0, .ref q_t), (1, .int x1), (2, .int x2)]) hx hb dX7_leap_113 hl (k := 4) rfl rfl (by decide) rfl (fun ls hl => ?_)
            refine lv_goto (tgt := 38) hx hb dX7_leap_116 (by decide) ?_
            exact ih (x3 &&& (0 : Int32)) (x4 + (1 : Int32)) (upd w_t_riggings x4.toNatClampNeg ((w_t_riggings x4.toNatClampNeg) + (x2 * x1))) _ _ _ hw (lv_sub hl [2, 3, 4, 1, 0] rfl) hf
          · have hf := (if_neg c27).symm.trans hf
            refine lv_iconst (v := (1 : Int32)) hx hb dX7_leap_106 (by decide) ?_
            refine lv_goto (tgt := 111) hx hb dX7_leap_107 (by decide) ?_
            refine lv_iand hx hb dX7_leap_111 ?_
            refine lv_istore_n (lv' := [(3, .int (x3 &&& (1 : Int32))), (0, .ref q_t), (1, .int x1), (2, .int x2), (4, .int x4)]) hx hb dX7_leap_112 rfl hl (by decide) rfl (fun ls hl => ?_)
            refine lv_iinc (v := (x4 + (1 : Int32))) (lv' := [(4, .int (x4 + (1 : Int32))), (3, .int (x3 &&& (1 : Int32))), (0, .ref q_t), (1, .int x1), (2, .int x2)]) hx hb dX7_leap_113 hl (k := 4) rfl rfl (by decide) rfl (fun ls hl => ?_)
            refine lv_goto (tgt := 38) hx hb dX7_leap_116 (by decide) ?_
            exact ih (x3 &&& (1 : Int32)) (x4 + (1 : Int32)) (upd w_t_riggings x4.toNatClampNeg ((w_t_riggings x4.toNatClampNeg) + (x2 * x1))) _ _ _ hw (lv_sub hl [2, 3, 4, 1, 0] rfl) hf
  unfold f_X7_leap at hf
  refine lv_iload_n hx hb dX7_leap_0 rfl (lv_at hl 1 rfl) ?_
  refine lv_iconst (v := (1 : Int32)) hx hb dX7_leap_1 (by decide) ?_
  refine lv_bipush (v := (50 : Int32)) hx hb dX7_leap_2 (by decide) ?_
  obtain ⟨r1, h2, hf⟩ := bd1_some hf
  refine cl_i (wr := [(q_t, .inr (7, [.ref q_t_boxes, .ref q_t_next, .int t_done, .ref q_t_left, .ref q_t_pairs, .int t_many, .ref q_t_lengths, .ref q_t_riggings, .int t_told, .ref q_t_toldLength, .ref q_t_toldRigging, .ref q_t_toldRoom, .int t_ringN, .ref q_t_ring, .ref q_t_was, .ref q_t_saved, .ref q_t_isThere, .ref q_t_forms, .ref q_t_sizes, .ref q_t_items, .ref q_t_moved, .int t_finding])), (q_t_boxes, .inl (cZ, 240, .inl t_boxes)), (q_t_next, .inl (cZ, 240, .inl t_next)), (q_t_lengths, .inl (cI, 241, .inl t_lengths)), (q_t_riggings, .inl (cI, 241, .inl t_riggings))]) (ws' := [(q_t, .inr (7, [.ref q_t_boxes, .ref q_t_next, .int t_done, .ref q_t_left, .ref q_t_pairs, .int t_many, .ref q_t_lengths, .ref q_t_riggings, .int t_told, .ref q_t_toldLength, .ref q_t_toldRigging, .ref q_t_toldRoom, .int t_ringN, .ref q_t_ring, .ref q_t_was, .ref q_t_saved, .ref q_t_isThere, .ref q_t_forms, .ref q_t_sizes, .ref q_t_items, .ref q_t_moved, .int t_finding])), (q_t_boxes, .inl (cZ, 240, .inl t_boxes)), (q_t_next, .inl (cZ, 240, .inl t_next)), (q_t_lengths, .inl (cI, 241, .inl t_lengths)), (q_t_riggings, .inl (cI, 241, .inl t_riggings))]) hA hw [] [0, 1, 2, 3, 4] [0, 1, 2, 3, 4] rfl rfl rfl (by decide) rfl rfl (va_runS (As := [.int p1, .int (1 : Int32), .int (50 : Int32)]) (rest := []) S (c_X7_in l D cI cZ cJ cO _ N p1 (1 : Int32) (50 : Int32) r1 h2) (va_cwS 3 hts gX7_leap_X7_in rfl rfl rfl (by decide +kernel) ⟨Nat.le_of_ble_eq_true rfl, Nat.le_of_ble_eq_true rfl⟩) (pre_S hK hN hw [] rfl rfl) rfl rfl hl.1 rfl (lv_room (Nat.le_of_ble_eq_true rfl)) dX7_leap_4 ⟨Nat.zero_le _, Nat.zero_le _⟩) (fun H locs hw => ?_)
  refine lv_if_eq (tgt := 23) hx hb dX7_leap_7 (by decide) (fun c3 => ?_) (fun c3 => ?_)
  · have hf := (if_pos c3).symm.trans hf
    refine lv_bipush (v := (-2 : Int32)) hx hb dX7_leap_23 (by decide) ?_
    obtain ⟨rfl, rfl, rfl, rfl, rfl, rfl, rfl⟩ := pr7 (Option.some.inj hf)
    exact rt_i S hr hlk hw dX7_leap_25
  · have hf := (if_neg c3).symm.trans hf
    refine lv_iload_n hx hb dX7_leap_10 rfl (lv_at hl 2 rfl) ?_
    refine lv_sipush (v := (-1000 : Int32)) hx hb dX7_leap_11 (by decide) ?_
    refine lv_sipush (v := (1000 : Int32)) hx hb dX7_leap_14 (by decide) ?_
    obtain ⟨r4, h5, hf⟩ := bd1_some hf
    refine cl_i (wr := [(q_t, .inr (7, [.ref q_t_boxes, .ref q_t_next, .int t_done, .ref q_t_left, .ref q_t_pairs, .int t_many, .ref q_t_lengths, .ref q_t_riggings, .int t_told, .ref q_t_toldLength, .ref q_t_toldRigging, .ref q_t_toldRoom, .int t_ringN, .ref q_t_ring, .ref q_t_was, .ref q_t_saved, .ref q_t_isThere, .ref q_t_forms, .ref q_t_sizes, .ref q_t_items, .ref q_t_moved, .int t_finding])), (q_t_boxes, .inl (cZ, 240, .inl t_boxes)), (q_t_next, .inl (cZ, 240, .inl t_next)), (q_t_lengths, .inl (cI, 241, .inl t_lengths)), (q_t_riggings, .inl (cI, 241, .inl t_riggings))]) (ws' := [(q_t, .inr (7, [.ref q_t_boxes, .ref q_t_next, .int t_done, .ref q_t_left, .ref q_t_pairs, .int t_many, .ref q_t_lengths, .ref q_t_riggings, .int t_told, .ref q_t_toldLength, .ref q_t_toldRigging, .ref q_t_toldRoom, .int t_ringN, .ref q_t_ring, .ref q_t_was, .ref q_t_saved, .ref q_t_isThere, .ref q_t_forms, .ref q_t_sizes, .ref q_t_items, .ref q_t_moved, .int t_finding])), (q_t_boxes, .inl (cZ, 240, .inl t_boxes)), (q_t_next, .inl (cZ, 240, .inl t_next)), (q_t_lengths, .inl (cI, 241, .inl t_lengths)), (q_t_riggings, .inl (cI, 241, .inl t_riggings))]) hA hw [] [0, 1, 2, 3, 4] [0, 1, 2, 3, 4] rfl rfl rfl (by decide) rfl rfl (va_runS (As := [.int p2, .int (-1000 : Int32), .int (1000 : Int32)]) (rest := []) S (c_X7_in l D cI cZ cJ cO _ N p2 (-1000 : Int32) (1000 : Int32) r4 h5) (va_cwS 3 hts gX7_leap_X7_in rfl rfl rfl (by decide +kernel) ⟨Nat.le_of_ble_eq_true rfl, Nat.le_of_ble_eq_true rfl⟩) (pre_S hK hN hw [] rfl rfl) rfl rfl hl.1 rfl (lv_room (Nat.le_of_ble_eq_true rfl)) dX7_leap_17 ⟨Nat.zero_le _, Nat.zero_le _⟩) (fun H locs hw => ?_)
    refine lv_if_ne (tgt := 26) hx hb dX7_leap_20 (by decide) (fun c6 => ?_) (fun c6 => ?_)
    · have hf := (if_neg c6).symm.trans hf
      refine lv_aload_n hx hb dX7_leap_26 rfl (lv_at hl 0 rfl) ?_
      refine lv_sipush (v := (240 : Int32)) hx hb dX7_leap_27 (by decide) ?_
      obtain ⟨u7, u8, u9, h10, hf⟩ := bd3_some hf
      refine cl_v (wr := [(q_t_next, .inl (cZ, 240, .inl t_next))]) (ws' := [(q_t, .inr (7, [.ref q_t_boxes, .ref q_t_next, .int t_done, .ref q_t_left, .ref q_t_pairs, .int u7, .ref q_t_lengths, .ref q_t_riggings, .int t_told, .ref q_t_toldLength, .ref q_t_toldRigging, .ref q_t_toldRoom, .int t_ringN, .ref q_t_ring, .ref q_t_was, .ref q_t_saved, .ref q_t_isThere, .ref q_t_forms, .ref q_t_sizes, .ref q_t_items, .ref q_t_moved, .int t_finding])), (q_t_boxes, .inl (cZ, 240, .inl t_boxes)), (q_t_next, .inl (cZ, 240, .inl t_next)), (q_t_lengths, .inl (cI, 241, .inl u8)), (q_t_riggings, .inl (cI, 241, .inl u9))]) hA hw [0, 1, 3, 4] [2] [1, 2, 0, 3, 4] rfl rfl rfl (by decide) rfl rfl (va_runV (As := [.int (240 : Int32)]) (rest := []) S (c_X7_reads l D cI cZ cJ cO _ q_t q_t_boxes q_t_next q_t_left q_t_pairs q_t_lengths q_t_riggings q_t_toldLength q_t_toldRigging q_t_toldRoom q_t_ring q_t_was q_t_saved q_t_isThere q_t_forms q_t_sizes q_t_items q_t_moved N (240 : Int32) t_done t_many t_told t_ringN t_finding t_boxes t_lengths t_riggings u7 u8 u9 h10) (cwV 1 hts gX7_leap_X7_reads rfl rfl rfl (by decide +kernel) ⟨Nat.le_of_ble_eq_true rfl, Nat.le_of_ble_eq_true rfl⟩) (pre_V hK hN hw [0, 1, 3, 4] rfl rfl (C := RX7) (T := TX7) (N := 22) (ci := 7) (q0 := 0) rfl rfl) rfl rfl hl.1 rfl (lv_room (Nat.le_of_ble_eq_true rfl)) dX7_leap_30 ⟨Nat.zero_le _, Nat.zero_le _⟩) (fun H locs hw => ?_)
      refine lv_iconst (v := (1 : Int32)) hx hb dX7_leap_33 (by decide) ?_
      refine lv_istore_n (lv' := [(3, .int (1 : Int32)), (0, .ref q_t), (1, .int p1), (2, .int p2)]) hx hb dX7_leap_34 rfl hl (by decide) rfl (fun ls hl => ?_)
      refine lv_iconst (v := (0 : Int32)) hx hb dX7_leap_35 (by decide) ?_
      refine lv_istore (lv' := [(4, .int (0 : Int32)), (3, .int (1 : Int32)), (0, .ref q_t), (1, .int p1), (2, .int p2)]) hx hb dX7_leap_36 hl (by decide) rfl (fun ls hl => ?_)
      refine Lp38 p1 p2 t_done u7 t_boxes t_next u8 _ (fun y28 u29 H locs ls hw hl hf => ?_) N (1 : Int32) (0 : Int32) u9 _ _ _ hw (lv_sub hl [2, 3, 4, 1, 0] rfl) hf
      refine lv_iload_n hx hb dX7_leap_119 rfl (lv_at hl 1 rfl) ?_
      refine lv_if_eq (tgt := 137) hx hb dX7_leap_120 (by decide) (fun c30 => ?_) (fun c30 => ?_)
      · have hf := (if_pos c30).symm.trans hf
        refine lv_bipush (v := (-4 : Int32)) hx hb dX7_leap_137 (by decide) ?_
        obtain ⟨rfl, rfl, rfl, rfl, rfl, rfl, rfl⟩ := pr7 (Option.some.inj hf)
        exact rt_i S hr hlk hw dX7_leap_139
      · have hf := (if_neg c30).symm.trans hf
        refine lv_aload_n hx hb dX7_leap_123 rfl (lv_at hl 0 rfl) ?_
        obtain ⟨r31, u32, u33, u34, u35, h36, hf⟩ := bd5_some hf
        refine cl_i (wr := [(q_t_boxes, .inl (cZ, 240, .inl t_boxes))]) (ws' := [(q_t, .inr (7, [.ref q_t_boxes, .ref q_t_next, .int t_done, .ref q_t_left, .ref q_t_pairs, .int u32, .ref q_t_lengths, .ref q_t_riggings, .int t_told, .ref q_t_toldLength, .ref q_t_toldRigging, .ref q_t_toldRoom, .int t_ringN, .ref q_t_ring, .ref q_t_was, .ref q_t_saved, .ref q_t_isThere, .ref q_t_forms, .ref q_t_sizes, .ref q_t_items, .ref q_t_moved, .int t_finding])), (q_t_boxes, .inl (cZ, 240, .inl t_boxes)), (q_t_next, .inl (cZ, 240, .inl u33)), (q_t_lengths, .inl (cI, 241, .inl u34)), (q_t_riggings, .inl (cI, 241, .inl u35))]) hA hw [0, 2, 3, 4] [1] [1, 0, 2, 3, 4] rfl rfl rfl (by decide) rfl rfl (va_runV (As := []) (rest := []) S (c_X7_makes l D cI cZ cJ cO _ q_t q_t_boxes q_t_next q_t_left q_t_pairs q_t_lengths q_t_riggings q_t_toldLength q_t_toldRigging q_t_toldRoom q_t_ring q_t_was q_t_saved q_t_isThere q_t_forms q_t_sizes q_t_items q_t_moved N t_done u7 t_told t_ringN t_finding t_next u8 u29 r31 u32 u33 u34 u35 h36) (cwV 0 hts gX7_leap_X7_makes rfl rfl rfl (by decide +kernel) ⟨Nat.le_of_ble_eq_true rfl, Nat.le_of_ble_eq_true rfl⟩) (pre_V hK hN hw [0, 2, 3, 4] rfl rfl (C := RX7) (T := TX7) (N := 22) (ci := 7) (q0 := 0) rfl rfl) rfl rfl hl.1 rfl (lv_room (Nat.le_of_ble_eq_true rfl)) dX7_leap_124 ⟨Nat.zero_le _, Nat.zero_le _⟩) (fun H locs hw => ?_)
        refine lv_if_eq (tgt := 137) hx hb dX7_leap_127 (by decide) (fun c37 => ?_) (fun c37 => ?_)
        · have hf := (if_pos c37).symm.trans hf
          refine lv_bipush (v := (-4 : Int32)) hx hb dX7_leap_137 (by decide) ?_
          obtain ⟨rfl, rfl, rfl, rfl, rfl, rfl, rfl⟩ := pr7 (Option.some.inj hf)
          exact rt_i S hr hlk hw dX7_leap_139
        · have hf := (if_neg c37).symm.trans hf
          refine lv_aload_n hx hb dX7_leap_130 rfl (lv_at hl 0 rfl) ?_
          obtain ⟨r38, u39, u40, h41, hf⟩ := bd3_some hf
          refine cl_i (wr := [(q_t_lengths, .inl (cI, 241, .inl u34)), (q_t_riggings, .inl (cI, 241, .inl u35))]) (ws' := [(q_t, .inr (7, [.ref q_t_boxes, .ref q_t_next, .int u39, .ref q_t_left, .ref q_t_pairs, .int u32, .ref q_t_lengths, .ref q_t_riggings, .int t_told, .ref q_t_toldLength, .ref q_t_toldRigging, .ref q_t_toldRoom, .int t_ringN, .ref q_t_ring, .ref q_t_was, .ref q_t_saved, .ref q_t_isThere, .ref q_t_forms, .ref q_t_sizes, .ref q_t_items, .ref q_t_moved, .int t_finding])), (q_t_boxes, .inl (cZ, 240, .inl u40)), (q_t_next, .inl (cZ, 240, .inl u33)), (q_t_lengths, .inl (cI, 241, .inl u34)), (q_t_riggings, .inl (cI, 241, .inl u35))]) hA hw [0, 1, 2] [3, 4] [2, 3, 4, 0, 1] rfl rfl rfl (by decide) rfl rfl (va_runV (As := []) (rest := []) S (c_X7_takes l D cI cZ cJ cO _ q_t q_t_boxes q_t_next q_t_left q_t_pairs q_t_lengths q_t_riggings q_t_toldLength q_t_toldRigging q_t_toldRoom q_t_ring q_t_was q_t_saved q_t_isThere q_t_forms q_t_sizes q_t_items q_t_moved N t_done u32 t_told t_ringN t_finding t_boxes u33 r38 u39 u40 h41) (cwV 0 hts gX7_leap_X7_takes rfl rfl rfl (by decide +kernel) ⟨Nat.le_of_ble_eq_true rfl, Nat.le_of_ble_eq_true rfl⟩) (pre_V hK hN hw [0, 1, 2] rfl rfl (C := RX7) (T := TX7) (N := 22) (ci := 7) (q0 := 0) rfl rfl) rfl rfl hl.1 rfl (lv_room (Nat.le_of_ble_eq_true rfl)) dX7_leap_131 ⟨Nat.zero_le _, Nat.zero_le _⟩) (fun H locs hw => ?_)
          refine lv_goto (tgt := 139) hx hb dX7_leap_134 (by decide) ?_
          obtain ⟨rfl, rfl, rfl, rfl, rfl, rfl, rfl⟩ := pr7 (Option.some.inj hf)
          exact rt_i S hr hlk hw dX7_leap_139
    · have hf := (if_pos c6).symm.trans hf
      refine lv_bipush (v := (-2 : Int32)) hx hb dX7_leap_23 (by decide) ?_
      obtain ⟨rfl, rfl, rfl, rfl, rfl, rfl, rfl⟩ := pr7 (Option.some.inj hf)
      exact rt_i S hr hlk hw dX7_leap_25

def L_X7_ringBalls_4 (N : Nat) (t_ringN : Int32) (t_ring : (Nat → Int32)) (K : Int32 → Option (Int32)) : Nat → Int32 → Int32 → Option (Int32)
  | 0, _, _ => none
  | n + 1, x1, x2 => (if t_ringN ≤ x2 then (K x1) else (ck (inb x2 40) (if (t_ring x2.toNatClampNeg) = (0 : Int32) then (L_X7_ringBalls_4 N t_ringN t_ring K n (x1 + (0 : Int32)) (x2 + (1 : Int32))) else (L_X7_ringBalls_4 N t_ringN t_ring K n (x1 + (1 : Int32)) (x2 + (1 : Int32))))))

def f_X7_ringBalls (N : Nat)  (t_ringN : Int32) (t_ring : (Nat → Int32)) : Option (Int32) :=
  (L_X7_ringBalls_4 N t_ringN t_ring (fun y4 => (some y4)) N (0 : Int32) (0 : Int32))

set_option maxHeartbeats 4000000 in
set_option maxRecDepth 100000 in
theorem c_X7_ringBalls (l : Launch) (D : va_G) (cI cZ cJ cO : ClassId) (sz : Nat) (q_t q_t_boxes q_t_next q_t_left q_t_pairs q_t_lengths q_t_riggings q_t_toldLength q_t_toldRigging q_t_toldRoom q_t_ring q_t_was q_t_saved q_t_isThere q_t_forms q_t_sizes q_t_items q_t_moved : Nat) (N : Nat)  (t_done : Int32) (t_many : Int32) (t_told : Int32) (t_ringN : Int32) (t_finding : Int32) (t_ring : (Nat → Int32)) (r : Int32) (hf : f_X7_ringBalls N t_ringN t_ring = some r) : Met l yX7_ringBalls wsX7_ringBalls ({ frames := 0, cells := 0, slots := 0, locals := 0 }) (PreC D (TY cI cZ cJ cO) [.ref q_t] [(q_t, .inr (7, [.ref q_t_boxes, .ref q_t_next, .int t_done, .ref q_t_left, .ref q_t_pairs, .int t_many, .ref q_t_lengths, .ref q_t_riggings, .int t_told, .ref q_t_toldLength, .ref q_t_toldRigging, .ref q_t_toldRoom, .int t_ringN, .ref q_t_ring, .ref q_t_was, .ref q_t_saved, .ref q_t_isThere, .ref q_t_forms, .ref q_t_sizes, .ref q_t_items, .ref q_t_moved, .int t_finding])), (q_t_ring, .inl (cZ, 40, .inl t_ring))] sz) (QcI D [(q_t, .inr (7, [.ref q_t_boxes, .ref q_t_next, .int t_done, .ref q_t_left, .ref q_t_pairs, .int t_many, .ref q_t_lengths, .ref q_t_riggings, .int t_told, .ref q_t_toldLength, .ref q_t_toldRigging, .ref q_t_toldRoom, .int t_ringN, .ref q_t_ring, .ref q_t_was, .ref q_t_saved, .ref q_t_isThere, .ref q_t_forms, .ref q_t_sizes, .ref q_t_items, .ref q_t_moved, .int t_finding])), (q_t_ring, .inl (cZ, 40, .inl t_ring))] (va_A [(q_t, .inr (7, [.ref q_t_boxes, .ref q_t_next, .int t_done, .ref q_t_left, .ref q_t_pairs, .int t_many, .ref q_t_lengths, .ref q_t_riggings, .int t_told, .ref q_t_toldLength, .ref q_t_toldRigging, .ref q_t_toldRoom, .int t_ringN, .ref q_t_ring, .ref q_t_was, .ref q_t_saved, .ref q_t_isThere, .ref q_t_forms, .ref q_t_sizes, .ref q_t_items, .ref q_t_moved, .int t_finding])), (q_t_ring, .inl (cZ, 40, .inl t_ring))] sz) r) 0 0 (va_A [(q_t, .inr (7, [.ref q_t_boxes, .ref q_t_next, .int t_done, .ref q_t_left, .ref q_t_pairs, .int t_many, .ref q_t_lengths, .ref q_t_riggings, .int t_told, .ref q_t_toldLength, .ref q_t_toldRigging, .ref q_t_toldRoom, .int t_ringN, .ref q_t_ring, .ref q_t_was, .ref q_t_saved, .ref q_t_isThere, .ref q_t_forms, .ref q_t_sizes, .ref q_t_items, .ref q_t_moved, .int t_finding])), (q_t_ring, .inl (cZ, 40, .inl t_ring))] sz) := by
  refine ctr (cc := cX7_ringBalls) (maxL := 3) (ret := (some .int)) (by decide) rfl (Nat.le_of_ble_eq_true rfl) ?_
  intro p e s m below meth c S hr hlk hnm hK hN hsz hA hw ls hl
  generalize va_A [(q_t, .inr (7, [.ref q_t_boxes, .ref q_t_next, .int t_done, .ref q_t_left, .ref q_t_pairs, .int t_many, .ref q_t_lengths, .ref q_t_riggings, .int t_told, .ref q_t_toldLength, .ref q_t_toldRigging, .ref q_t_toldRoom, .int t_ringN, .ref q_t_ring, .ref q_t_was, .ref q_t_saved, .ref q_t_isThere, .ref q_t_forms, .ref q_t_sizes, .ref q_t_items, .ref q_t_moved, .int t_finding])), (q_t_ring, .inl (cZ, 40, .inl t_ring))] sz = A at hA hw ⊢
  have S : CallFix p m c cX7_ringBalls 3 s ([.ref q_t] : List Value).toArray wsX7_ringBalls RX7 := S
  have hx := S.1
  have hb := S.2.1
  have hts := S.2.2.2.2
  have hl : lv_has ls 3 [(0, .ref q_t)] := hl
  have hinX7 : ∀ w ∈ u_ws RX7 TX7 22, w ∈ wsX7_ringBalls := by decide +kernel
  have k38 : Cond.fieldLink RX7 38 "BallBoxesModel" "ringN" "I" ∈ wsX7_ringBalls := by decide +kernel
  have k42 : Cond.fieldLink RX7 42 "BallBoxesModel" "ring" "[Z" ∈ wsX7_ringBalls := by decide +kernel
  have Lp4 : ∀  (K : Int32 → Option (Int32)), (∀ (z1 : Int32) (H : Heap) (locs : List Loc) (ls : Array Slot), Wd D A s.heap [(q_t, .inr (7, [.ref q_t_boxes, .ref q_t_next, .int t_done, .ref q_t_left, .ref q_t_pairs, .int t_many, .ref q_t_lengths, .ref q_t_riggings, .int t_told, .ref q_t_toldLength, .ref q_t_toldRigging, .ref q_t_toldRoom, .int t_ringN, .ref q_t_ring, .ref q_t_was, .ref q_t_saved, .ref q_t_isThere, .ref q_t_forms, .ref q_t_sizes, .ref q_t_items, .ref q_t_moved, .int t_finding])), (q_t_ring, .inl (cZ, 40, .inl t_ring))] H locs → lv_has ls 3 [(1, .int z1)] → K z1 = some r → W p l e ({ frames := 0, cells := 0, slots := 0, locals := 0 } : Room) s m ([.ref q_t] : List Value).toArray below meth c H locs 0 0 (MQ below (QcI D [(q_t, .inr (7, [.ref q_t_boxes, .ref q_t_next, .int t_done, .ref q_t_left, .ref q_t_pairs, .int t_many, .ref q_t_lengths, .ref q_t_riggings, .int t_told, .ref q_t_toldLength, .ref q_t_toldRigging, .ref q_t_toldRoom, .int t_ringN, .ref q_t_ring, .ref q_t_was, .ref q_t_saved, .ref q_t_isThere, .ref q_t_forms, .ref q_t_sizes, .ref q_t_items, .ref q_t_moved, .int t_finding])), (q_t_ring, .inl (cZ, 40, .inl t_ring))] A r) ([.ref q_t] : List Value).toArray s 0 0 A) (F0 m 35 ls [])) → ∀ (n : Nat) (x1 : Int32) (x2 : Int32) (H : Heap) (locs : List Loc) (ls : Array Slot), Wd D A s.heap [(q_t, .inr (7, [.ref q_t_boxes, .ref q_t_next, .int t_done, .ref q_t_left, .ref q_t_pairs, .int t_many, .ref q_t_lengths, .ref q_t_riggings, .int t_told, .ref q_t_toldLength, .ref q_t_toldRigging, .ref q_t_toldRoom, .int t_ringN, .ref q_t_ring, .ref q_t_was, .ref q_t_saved, .ref q_t_isThere, .ref q_t_forms, .ref q_t_sizes, .ref q_t_items, .ref q_t_moved, .int t_finding])), (q_t_ring, .inl (cZ, 40, .inl t_ring))] H locs → lv_has ls 3 [(0, .ref q_t), (1, .int x1), (2, .int x2)] → L_X7_ringBalls_4 N t_ringN t_ring K n x1 x2 = some r → W p l e ({ frames := 0, cells := 0, slots := 0, locals := 0 } : Room) s m ([.ref q_t] : List Value).toArray below meth c H locs 0 0 (MQ below (QcI D [(q_t, .inr (7, [.ref q_t_boxes, .ref q_t_next, .int t_done, .ref q_t_left, .ref q_t_pairs, .int t_many, .ref q_t_lengths, .ref q_t_riggings, .int t_told, .ref q_t_toldLength, .ref q_t_toldRigging, .ref q_t_toldRoom, .int t_ringN, .ref q_t_ring, .ref q_t_was, .ref q_t_saved, .ref q_t_isThere, .ref q_t_forms, .ref q_t_sizes, .ref q_t_items, .ref q_t_moved, .int t_finding])), (q_t_ring, .inl (cZ, 40, .inl t_ring))] A r) ([.ref q_t] : List Value).toArray s 0 0 A) (F0 m 4 ls []) := by
    intro  K hKx n
    induction n with
    | zero =>
      intro x1 x2 H locs ls hw hl hf
      rw [L_X7_ringBalls_4] at hf
      cases hf
    | succ n ih =>
      intro x1 x2 H locs ls hw hl hf
      rw [L_X7_ringBalls_4] at hf
      refine lv_iload_n hx hb dX7_ringBalls_4 rfl (lv_at hl 2 rfl) ?_
      refine lv_aload_n hx hb dX7_ringBalls_5 rfl (lv_at hl 0 rfl) ?_
      refine g_get (ci := 7) (C := RX7) (T := TX7) (N := 22) S hinX7 hK hw 0 12 k38 dX7_ringBalls_6 rfl rfl (by decide) rfl ?_
      refine lv_icmp_ge (tgt := 35) hx hb dX7_ringBalls_9 (by decide) (fun c1 => ?_) (fun c1 => ?_)
      · have hf := (if_pos c1).symm.trans hf
        exact hKx x1 _ _ _ hw (lv_sub hl [1] rfl) hf
      · have hf := (if_neg c1).symm.trans hf
        refine lv_iload_n hx hb dX7_ringBalls_12 rfl (lv_at hl 1 rfl) ?_
        refine lv_aload_n hx hb dX7_ringBalls_13 rfl (lv_at hl 0 rfl) ?_
        refine g_get (ci := 7) (C := RX7) (T := TX7) (N := 22) S hinX7 hK hw 0 13 k42 dX7_ringBalls_14 rfl rfl (by decide) rfl ?_
        refine lv_iload_n hx hb dX7_ringBalls_17 rfl (lv_at hl 2 rfl) ?_
        obtain ⟨b2, hf⟩ := ck_some hf
        refine g_zald S hK hw 1 1 b2 dX7_ringBalls_18 rfl rfl ?_
        refine lv_if_eq (tgt := 26) hx hb dX7_ringBalls_19 (by decide) (fun c3 => ?_) (fun c3 => ?_)
        · have hf := (if_pos c3).symm.trans hf
          refine lv_iconst (v := (0 : Int32)) hx hb dX7_ringBalls_26 (by decide) ?_
          refine lv_iadd hx hb dX7_ringBalls_27 ?_
          refine lv_istore_n (lv' := [(1, .int (x1 + (0 : Int32))), (0, .ref q_t), (2, .int x2)]) hx hb dX7_ringBalls_28 rfl hl (by decide) rfl (fun ls hl => ?_)
          refine lv_iinc (v := (x2 + (1 : Int32))) (lv' := [(2, .int (x2 + (1 : Int32))), (1, .int (x1 + (0 : Int32))), (0, .ref q_t)]) hx hb dX7_ringBalls_29 hl (k := 2) rfl rfl (by decide) rfl (fun ls hl => ?_)
          refine lv_goto (tgt := 4) hx hb dX7_ringBalls_32 (by decide) ?_
          exact ih (x1 + (0 : Int32)) (x2 + (1 : Int32)) _ _ _ hw (lv_sub hl [2, 1, 0] rfl) hf
        · have hf := (if_neg c3).symm.trans hf
          refine lv_iconst (v := (1 : Int32)) hx hb dX7_ringBalls_22 (by decide) ?_
          refine lv_goto (tgt := 27) hx hb dX7_ringBalls_23 (by decide) ?_
          refine lv_iadd hx hb dX7_ringBalls_27 ?_
          refine lv_istore_n (lv' := [(1, .int (x1 + (1 : Int32))), (0, .ref q_t), (2, .int x2)]) hx hb dX7_ringBalls_28 rfl hl (by decide) rfl (fun ls hl => ?_)
          refine lv_iinc (v := (x2 + (1 : Int32))) (lv' := [(2, .int (x2 + (1 : Int32))), (1, .int (x1 + (1 : Int32))), (0, .ref q_t)]) hx hb dX7_ringBalls_29 hl (k := 2) rfl rfl (by decide) rfl (fun ls hl => ?_)
          refine lv_goto (tgt := 4) hx hb dX7_ringBalls_32 (by decide) ?_
          exact ih (x1 + (1 : Int32)) (x2 + (1 : Int32)) _ _ _ hw (lv_sub hl [2, 1, 0] rfl) hf
  unfold f_X7_ringBalls at hf
  refine lv_iconst (v := (0 : Int32)) hx hb dX7_ringBalls_0 (by decide) ?_
  refine lv_istore_n (lv' := [(1, .int (0 : Int32)), (0, .ref q_t)]) hx hb dX7_ringBalls_1 rfl hl (by decide) rfl (fun ls hl => ?_)
  refine lv_iconst (v := (0 : Int32)) hx hb dX7_ringBalls_2 (by decide) ?_
  refine lv_istore_n (lv' := [(2, .int (0 : Int32)), (1, .int (0 : Int32)), (0, .ref q_t)]) hx hb dX7_ringBalls_3 rfl hl (by decide) rfl (fun ls hl => ?_)
  refine Lp4  _ (fun y4 H locs ls hw hl hf => ?_) N (0 : Int32) (0 : Int32) _ _ _ hw (lv_sub hl [2, 1, 0] rfl) hf
  refine lv_iload_n hx hb dX7_ringBalls_35 rfl (lv_at hl 0 rfl) ?_
  obtain rfl := Option.some.inj hf
  exact rt_i S hr hlk hw dX7_ringBalls_36
