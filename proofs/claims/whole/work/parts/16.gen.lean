def L_X7_ring_31 (N : Nat) (x1 : Int32) (x2 : Int32) (t_boxes : (Nat → Int32)) (K : Int32 → Option (Int32 × Int32 × (Nat → Int32))) : Nat → Int32 → Int32 → Option (Int32 × Int32 × (Nat → Int32))
  | 0, _, _ => none
  | n + 1, x3, x4 => (if x2 ≤ x4 then (K x3) else (ck (inb (x1 + x4) 240) (if (t_boxes (x1 + x4).toNatClampNeg) = (0 : Int32) then (L_X7_ring_31 N x1 x2 t_boxes K n (x3 + (0 : Int32)) (x4 + (1 : Int32))) else (L_X7_ring_31 N x1 x2 t_boxes K n (x3 + (1 : Int32)) (x4 + (1 : Int32))))))

def L_X7_ring_81 (N : Nat) (x1 : Int32) (x2 : Int32) (t_boxes : (Nat → Int32)) (K : (Nat → Int32) → Option (Int32 × Int32 × (Nat → Int32))) : Nat → Int32 → (Nat → Int32) → Option (Int32 × Int32 × (Nat → Int32))
  | 0, _, _ => none
  | n + 1, x4, w_t_ring => (if x2 ≤ x4 then (K w_t_ring) else (ck (inb (x1 + x4) 240) (ck (inb x4 40) (L_X7_ring_81 N x1 x2 t_boxes K n (x4 + (1 : Int32)) (upd w_t_ring x4.toNatClampNeg (vp_nar .boolean (t_boxes (x1 + x4).toNatClampNeg)))))))

def f_X7_ring (N : Nat) (p1 : Int32) (p2 : Int32) (t_ringN : Int32) (t_boxes : (Nat → Int32)) (t_ring : (Nat → Int32)) : Option (Int32 × Int32 × (Nat → Int32)) :=
  (bd1 (f_X7_in N p2 (1 : Int32) (40 : Int32)) (fun r1 => (if r1 = (0 : Int32) then (some ((-2 : Int32), t_ringN, t_ring)) else (bd1 (f_X7_in N p1 (0 : Int32) ((240 : Int32) - p2)) (fun r4 => (if r4 = (0 : Int32) then (some ((-2 : Int32), t_ringN, t_ring)) else (L_X7_ring_31 N p1 p2 t_boxes (fun y10 => (if ((2 : Int32) * y10) < p2 then (L_X7_ring_81 N p1 p2 t_boxes (fun u15 => (some (y10, p2, u15))) N (0 : Int32) t_ring) else (some ((-3 : Int32), t_ringN, t_ring)))) N (0 : Int32) (0 : Int32))))))))

set_option maxHeartbeats 4000000 in
set_option maxRecDepth 100000 in
theorem c_X7_ring (l : Launch) (D : va_G) (cI cZ cJ cO : ClassId) (sz : Nat) (q_t q_t_boxes q_t_next q_t_left q_t_pairs q_t_lengths q_t_riggings q_t_toldLength q_t_toldRigging q_t_toldRoom q_t_ring q_t_was q_t_saved q_t_isThere q_t_forms q_t_sizes q_t_items q_t_moved : Nat) (N : Nat) (p1 : Int32) (p2 : Int32) (t_done : Int32) (t_many : Int32) (t_told : Int32) (t_ringN : Int32) (t_finding : Int32) (t_boxes : (Nat → Int32)) (t_ring : (Nat → Int32)) (r : Int32) (o_t_ringN : Int32) (o_t_ring : (Nat → Int32)) (hf : f_X7_ring N p1 p2 t_ringN t_boxes t_ring = some (r, o_t_ringN, o_t_ring)) : Met l yX7_ring wsX7_ring ({ frames := 1, cells := 0, slots := 0, locals := 22 }) (PreC D (TY cI cZ cJ cO) [.ref q_t, .int p1, .int p2] [(q_t, .inr (7, [.ref q_t_boxes, .ref q_t_next, .int t_done, .ref q_t_left, .ref q_t_pairs, .int t_many, .ref q_t_lengths, .ref q_t_riggings, .int t_told, .ref q_t_toldLength, .ref q_t_toldRigging, .ref q_t_toldRoom, .int t_ringN, .ref q_t_ring, .ref q_t_was, .ref q_t_saved, .ref q_t_isThere, .ref q_t_forms, .ref q_t_sizes, .ref q_t_items, .ref q_t_moved, .int t_finding])), (q_t_boxes, .inl (cZ, 240, .inl t_boxes)), (q_t_ring, .inl (cZ, 40, .inl t_ring))] sz) (QcI D [(q_t, .inr (7, [.ref q_t_boxes, .ref q_t_next, .int t_done, .ref q_t_left, .ref q_t_pairs, .int t_many, .ref q_t_lengths, .ref q_t_riggings, .int t_told, .ref q_t_toldLength, .ref q_t_toldRigging, .ref q_t_toldRoom, .int o_t_ringN, .ref q_t_ring, .ref q_t_was, .ref q_t_saved, .ref q_t_isThere, .ref q_t_forms, .ref q_t_sizes, .ref q_t_items, .ref q_t_moved, .int t_finding])), (q_t_boxes, .inl (cZ, 240, .inl t_boxes)), (q_t_ring, .inl (cZ, 40, .inl o_t_ring))] (va_A [(q_t, .inr (7, [.ref q_t_boxes, .ref q_t_next, .int t_done, .ref q_t_left, .ref q_t_pairs, .int t_many, .ref q_t_lengths, .ref q_t_riggings, .int t_told, .ref q_t_toldLength, .ref q_t_toldRigging, .ref q_t_toldRoom, .int t_ringN, .ref q_t_ring, .ref q_t_was, .ref q_t_saved, .ref q_t_isThere, .ref q_t_forms, .ref q_t_sizes, .ref q_t_items, .ref q_t_moved, .int t_finding])), (q_t_boxes, .inl (cZ, 240, .inl t_boxes)), (q_t_ring, .inl (cZ, 40, .inl t_ring))] sz) r) 0 0 (va_A [(q_t, .inr (7, [.ref q_t_boxes, .ref q_t_next, .int t_done, .ref q_t_left, .ref q_t_pairs, .int t_many, .ref q_t_lengths, .ref q_t_riggings, .int t_told, .ref q_t_toldLength, .ref q_t_toldRigging, .ref q_t_toldRoom, .int t_ringN, .ref q_t_ring, .ref q_t_was, .ref q_t_saved, .ref q_t_isThere, .ref q_t_forms, .ref q_t_sizes, .ref q_t_items, .ref q_t_moved, .int t_finding])), (q_t_boxes, .inl (cZ, 240, .inl t_boxes)), (q_t_ring, .inl (cZ, 40, .inl t_ring))] sz) := by
  refine ctr (cc := cX7_ring) (maxL := 5) (ret := (some .int)) (by decide) rfl (Nat.le_of_ble_eq_true rfl) ?_
  intro p e s m below meth c S hr hlk hnm hK hN hsz hA hw ls hl
  generalize va_A [(q_t, .inr (7, [.ref q_t_boxes, .ref q_t_next, .int t_done, .ref q_t_left, .ref q_t_pairs, .int t_many, .ref q_t_lengths, .ref q_t_riggings, .int t_told, .ref q_t_toldLength, .ref q_t_toldRigging, .ref q_t_toldRoom, .int t_ringN, .ref q_t_ring, .ref q_t_was, .ref q_t_saved, .ref q_t_isThere, .ref q_t_forms, .ref q_t_sizes, .ref q_t_items, .ref q_t_moved, .int t_finding])), (q_t_boxes, .inl (cZ, 240, .inl t_boxes)), (q_t_ring, .inl (cZ, 40, .inl t_ring))] sz = A at hA hw ⊢
  have S : CallFix p m c cX7_ring 5 s ([.ref q_t, .int p1, .int p2] : List Value).toArray wsX7_ring RX7 := S
  have hx := S.1
  have hb := S.2.1
  have hts := S.2.2.2.2
  have hl : lv_has ls 5 [(0, .ref q_t), (1, .int p1), (2, .int p2)] := hl
  have hinX7 : ∀ w ∈ u_ws RX7 TX7 22, w ∈ wsX7_ring := by decide +kernel
  have k7 : Cond.fieldLink RX7 7 "BallBoxesModel" "boxes" "[Z" ∈ wsX7_ring := by decide +kernel
  have k38 : Cond.fieldLink RX7 38 "BallBoxesModel" "ringN" "I" ∈ wsX7_ring := by decide +kernel
  have k42 : Cond.fieldLink RX7 42 "BallBoxesModel" "ring" "[Z" ∈ wsX7_ring := by decide +kernel
  have Lp31 : ∀ (x1 : Int32) (x2 : Int32) (w_t_ringN : Int32) (w_t_ring : (Nat → Int32)) (K : Int32 → Option (Int32 × Int32 × (Nat → Int32))), (∀ (z3 : Int32) (H : Heap) (locs : List Loc) (ls : Array Slot), Wd D A s.heap [(q_t, .inr (7, [.ref q_t_boxes, .ref q_t_next, .int t_done, .ref q_t_left, .ref q_t_pairs, .int t_many, .ref q_t_lengths, .ref q_t_riggings, .int t_told, .ref q_t_toldLength, .ref q_t_toldRigging, .ref q_t_toldRoom, .int w_t_ringN, .ref q_t_ring, .ref q_t_was, .ref q_t_saved, .ref q_t_isThere, .ref q_t_forms, .ref q_t_sizes, .ref q_t_items, .ref q_t_moved, .int t_finding])), (q_t_boxes, .inl (cZ, 240, .inl t_boxes)), (q_t_ring, .inl (cZ, 40, .inl w_t_ring))] H locs → lv_has ls 5 [(0, .ref q_t), (1, .int x1), (2, .int x2), (3, .int z3)] → K z3 = some (r, o_t_ringN, o_t_ring) → W p l e ({ frames := 1, cells := 0, slots := 0, locals := 22 } : Room) s m ([.ref q_t, .int p1, .int p2] : List Value).toArray below meth c H locs 0 0 (MQ below (QcI D [(q_t, .inr (7, [.ref q_t_boxes, .ref q_t_next, .int t_done, .ref q_t_left, .ref q_t_pairs, .int t_many, .ref q_t_lengths, .ref q_t_riggings, .int t_told, .ref q_t_toldLength, .ref q_t_toldRigging, .ref q_t_toldRoom, .int o_t_ringN, .ref q_t_ring, .ref q_t_was, .ref q_t_saved, .ref q_t_isThere, .ref q_t_forms, .ref q_t_sizes, .ref q_t_items, .ref q_t_moved, .int t_finding])), (q_t_boxes, .inl (cZ, 240, .inl t_boxes)), (q_t_ring, .inl (cZ, 40, .inl o_t_ring))] A r) ([.ref q_t, .int p1, .int p2] : List Value).toArray s 0 0 A) (F0 m 63 ls [])) → ∀ (n : Nat) (x3 : Int32) (x4 : Int32) (H : Heap) (locs : List Loc) (ls : Array Slot), Wd D A s.heap [(q_t, .inr (7, [.ref q_t_boxes, .ref q_t_next, .int t_done, .ref q_t_left, .ref q_t_pairs, .int t_many, .ref q_t_lengths, .ref q_t_riggings, .int t_told, .ref q_t_toldLength, .ref q_t_toldRigging, .ref q_t_toldRoom, .int w_t_ringN, .ref q_t_ring, .ref q_t_was, .ref q_t_saved, .ref q_t_isThere, .ref q_t_forms, .ref q_t_sizes, .ref q_t_items, .ref q_t_moved, .int t_finding])), (q_t_boxes, .inl (cZ, 240, .inl t_boxes)), (q_t_ring, .inl (cZ, 40, .inl w_t_ring))] H locs → lv_has ls 5 [(0, .ref q_t), (1, .int x1), (2, .int x2), (3, .int x3), (4, .int x4)] → L_X7_ring_31 N x1 x2 t_boxes K n x3 x4 = some (r, o_t_ringN, o_t_ring) → W p l e ({ frames := 1, cells := 0, slots := 0, locals := 22 } : Room) s m ([.ref q_t, .int p1, .int p2] : List Value).toArray below meth c H locs 0 0 (MQ below (QcI D [(q_t, .inr (7, [.ref q_t_boxes, .ref q_t_next, .int t_done, .ref q_t_left, .ref q_t_pairs, .int t_many, .ref q_t_lengths, .ref q_t_riggings, .int t_told, .ref q_t_toldLength, .ref q_t_toldRigging, .ref q_t_toldRoom, .int o_t_ringN, .ref q_t_ring, .ref q_t_was, .ref q_t_saved, .ref q_t_isThere, .ref q_t_forms, .ref q_t_sizes, .ref q_t_items, .ref q_t_moved, .int t_finding])), (q_t_boxes, .inl (cZ, 240, .inl t_boxes)), (q_t_ring, .inl (cZ, 40, .inl o_t_ring))] A r) ([.ref q_t, .int p1, .int p2] : List Value).toArray s 0 0 A) (F0 m 31 ls []) := by
    intro x1 x2 w_t_ringN w_t_ring K hKx n
    induction n with
    | zero =>
      intro x3 x4 H locs ls hw hl hf
      rw [L_X7_ring_31] at hf
      cases hf
    | succ n ih =>
      intro x3 x4 H locs ls hw hl hf
      rw [L_X7_ring_31] at hf
      refine lv_iload hx hb dX7_ring_31 (lv_at hl 4 rfl) ?_
      refine lv_iload_n hx hb dX7_ring_33 rfl (lv_at hl 2 rfl) ?_
      refine lv_icmp_ge (tgt := 63) hx hb dX7_ring_34 (by decide) (fun c7 => ?_) (fun c7 => ?_)
      · have hf := (if_pos c7).symm.trans hf
        exact hKx x3 _ _ _ hw (lv_sub hl [0, 1, 2, 3] rfl) hf
      · have hf := (if_neg c7).symm.trans hf
        refine lv_iload_n hx hb dX7_ring_37 rfl (lv_at hl 3 rfl) ?_
        refine lv_aload_n hx hb dX7_ring_38 rfl (lv_at hl 0 rfl) ?_
        refine g_get (ci := 7) (C := RX7) (T := TX7) (N := 22) S hinX7 hK hw 0 0 k7 dX7_ring_39 rfl rfl (by decide) rfl ?_
        refine lv_iload_n hx hb dX7_ring_42 rfl (lv_at hl 1 rfl) ?_
        refine lv_iload hx hb dX7_ring_43 (lv_at hl 4 rfl) ?_
        refine lv_iadd hx hb dX7_ring_45 ?_
        obtain ⟨b8, hf⟩ := ck_some hf
        refine g_zald S hK hw 1 1 b8 dX7_ring_46 rfl rfl ?_
        refine lv_if_eq (tgt := 54) hx hb dX7_ring_47 (by decide) (fun c9 => ?_) (fun c9 => ?_)
        · have hf := (if_pos c9).symm.trans hf
          refine lv_iconst (v := (0 : Int32)) hx hb dX7_ring_54 (by decide) ?_
          refine lv_iadd hx hb dX7_ring_55 ?_
          refine lv_istore_n (lv' := [(3, .int (x3 + (0 : Int32))), (0, .ref q_t), (1, .int x1), (2, .int x2), (4, .int x4)]) hx hb dX7_ring_56 rfl hl (by decide) rfl (fun ls hl => ?_)
          refine lv_iinc (v := (x4 + (1 : Int32))) (lv' := [(4, .int (x4 + (1 : Int32))), (3, .int (x3 + (0 : Int32))), (0, .ref q_t), (1, .int x1), (2, .int x2)]) hx hb dX7_ring_57 hl (k := 4) rfl rfl (by decide) rfl (fun ls hl => ?_)
          refine lv_goto (tgt := 31) hx hb dX7_ring_60 (by decide) ?_
          exact ih (x3 + (0 : Int32)) (x4 + (1 : Int32)) _ _ _ hw (lv_sub hl [2, 3, 4, 1, 0] rfl) hf
        · have hf := (if_neg c9).symm.trans hf
          refine lv_iconst (v := (1 : Int32)) hx hb dX7_ring_50 (by decide) ?_
          refine lv_goto (tgt := 55) hx hb dX7_ring_51 (by decide) ?_
          refine lv_iadd hx hb dX7_ring_55 ?_
          refine lv_istore_n (lv' := [(3, .int (x3 + (1 : Int32))), (0, .ref q_t), (1, .int x1), (2, .int x2), (4, .int x4)]) hx hb dX7_ring_56 rfl hl (by decide) rfl (fun ls hl => ?_)
          refine lv_iinc (v := (x4 + (1 : Int32))) (lv' := [(4, .int (x4 + (1 : Int32))), (3, .int (x3 + (1 : Int32))), (0, .ref q_t), (1, .int x1), (2, .int x2)]) hx hb dX7_ring_57 hl (k := 4) rfl rfl (by decide) rfl (fun ls hl => ?_)
          refine lv_goto (tgt := 31) hx hb dX7_ring_60 (by decide) ?_
          exact ih (x3 + (1 : Int32)) (x4 + (1 : Int32)) _ _ _ hw (lv_sub hl [2, 3, 4, 1, 0] rfl) hf
  have Lp81 : ∀ (x1 : Int32) (x2 : Int32) (x3 : Int32) (w_t_ringN : Int32) (K : (Nat → Int32) → Option (Int32 × Int32 × (Nat → Int32))), (∀ (z_t_ring : (Nat → Int32)) (H : Heap) (locs : List Loc) (ls : Array Slot), Wd D A s.heap [(q_t, .inr (7, [.ref q_t_boxes, .ref q_t_next, .int t_done, .ref q_t_left, .ref q_t_pairs, .int t_many, .ref q_t_lengths, .ref q_t_riggings, .int t_told, .ref q_t_toldLength, .ref q_t_toldRigging, .ref q_t_toldRoom, .int w_t_ringN, .ref q_t_ring, .ref q_t_was, .ref q_t_saved, .ref q_t_isThere, .ref q_t_forms, .ref q_t_sizes, .ref q_t_items, .ref q_t_moved, .int t_finding])), (q_t_boxes, .inl (cZ, 240, .inl t_boxes)), (q_t_ring, .inl (cZ, 40, .inl z_t_ring))] H locs → lv_has ls 5 [(3, .int x3)] → K z_t_ring = some (r, o_t_ringN, o_t_ring) → W p l e ({ frames := 1, cells := 0, slots := 0, locals := 22 } : Room) s m ([.ref q_t, .int p1, .int p2] : List Value).toArray below meth c H locs 0 0 (MQ below (QcI D [(q_t, .inr (7, [.ref q_t_boxes, .ref q_t_next, .int t_done, .ref q_t_left, .ref q_t_pairs, .int t_many, .ref q_t_lengths, .ref q_t_riggings, .int t_told, .ref q_t_toldLength, .ref q_t_toldRigging, .ref q_t_toldRoom, .int o_t_ringN, .ref q_t_ring, .ref q_t_was, .ref q_t_saved, .ref q_t_isThere, .ref q_t_forms, .ref q_t_sizes, .ref q_t_items, .ref q_t_moved, .int t_finding])), (q_t_boxes, .inl (cZ, 240, .inl t_boxes)), (q_t_ring, .inl (cZ, 40, .inl o_t_ring))] A r) ([.ref q_t, .int p1, .int p2] : List Value).toArray s 0 0 A) (F0 m 109 ls [])) → ∀ (n : Nat) (x4 : Int32) (w_t_ring : (Nat → Int32)) (H : Heap) (locs : List Loc) (ls : Array Slot), Wd D A s.heap [(q_t, .inr (7, [.ref q_t_boxes, .ref q_t_next, .int t_done, .ref q_t_left, .ref q_t_pairs, .int t_many, .ref q_t_lengths, .ref q_t_riggings, .int t_told, .ref q_t_toldLength, .ref q_t_toldRigging, .ref q_t_toldRoom, .int w_t_ringN, .ref q_t_ring, .ref q_t_was, .ref q_t_saved, .ref q_t_isThere, .ref q_t_forms, .ref q_t_sizes, .ref q_t_items, .ref q_t_moved, .int t_finding])), (q_t_boxes, .inl (cZ, 240, .inl t_boxes)), (q_t_ring, .inl (cZ, 40, .inl w_t_ring))] H locs → lv_has ls 5 [(0, .ref q_t), (1, .int x1), (2, .int x2), (3, .int x3), (4, .int x4)] → L_X7_ring_81 N x1 x2 t_boxes K n x4 w_t_ring = some (r, o_t_ringN, o_t_ring) → W p l e ({ frames := 1, cells := 0, slots := 0, locals := 22 } : Room) s m ([.ref q_t, .int p1, .int p2] : List Value).toArray below meth c H locs 0 0 (MQ below (QcI D [(q_t, .inr (7, [.ref q_t_boxes, .ref q_t_next, .int t_done, .ref q_t_left, .ref q_t_pairs, .int t_many, .ref q_t_lengths, .ref q_t_riggings, .int t_told, .ref q_t_toldLength, .ref q_t_toldRigging, .ref q_t_toldRoom, .int o_t_ringN, .ref q_t_ring, .ref q_t_was, .ref q_t_saved, .ref q_t_isThere, .ref q_t_forms, .ref q_t_sizes, .ref q_t_items, .ref q_t_moved, .int t_finding])), (q_t_boxes, .inl (cZ, 240, .inl t_boxes)), (q_t_ring, .inl (cZ, 40, .inl o_t_ring))] A r) ([.ref q_t, .int p1, .int p2] : List Value).toArray s 0 0 A) (F0 m 81 ls []) := by
    intro x1 x2 x3 w_t_ringN K hKx n
    induction n with
    | zero =>
      intro x4 w_t_ring H locs ls hw hl hf
      rw [L_X7_ring_81] at hf
      cases hf
    | succ n ih =>
      intro x4 w_t_ring H locs ls hw hl hf
      rw [L_X7_ring_81] at hf
      refine lv_iload hx hb dX7_ring_81 (lv_at hl 4 rfl) ?_
      refine lv_iload_n hx hb dX7_ring_83 rfl (lv_at hl 2 rfl) ?_
      refine lv_icmp_ge (tgt := 109) hx hb dX7_ring_84 (by decide) (fun c12 => ?_) (fun c12 => ?_)
      · have hf := (if_pos c12).symm.trans hf
        exact hKx w_t_ring _ _ _ hw (lv_sub hl [3] rfl) hf
      · have hf := (if_neg c12).symm.trans hf
        refine lv_aload_n hx hb dX7_ring_87 rfl (lv_at hl 0 rfl) ?_
        refine g_get (ci := 7) (C := RX7) (T := TX7) (N := 22) S hinX7 hK hw 0 13 k42 dX7_ring_88 rfl rfl (by decide) rfl ?_
        refine lv_iload hx hb dX7_ring_91 (lv_at hl 4 rfl) ?_
        refine lv_aload_n hx hb dX7_ring_93 rfl (lv_at hl 0 rfl) ?_
        refine g_get (ci := 7) (C := RX7) (T := TX7) (N := 22) S hinX7 hK hw 0 0 k7 dX7_ring_94 rfl rfl (by decide) rfl ?_
        refine lv_iload_n hx hb dX7_ring_97 rfl (lv_at hl 1 rfl) ?_
        refine lv_iload hx hb dX7_ring_98 (lv_at hl 4 rfl) ?_
        refine lv_iadd hx hb dX7_ring_100 ?_
        obtain ⟨b13, hf⟩ := ck_some hf
        refine g_zald S hK hw 1 1 b13 dX7_ring_101 rfl rfl ?_
        obtain ⟨b14, hf⟩ := ck_some hf
        refine g_zast (ws' := [(q_t, .inr (7, [.ref q_t_boxes, .ref q_t_next, .int t_done, .ref q_t_left, .ref q_t_pairs, .int t_many, .ref q_t_lengths, .ref q_t_riggings, .int t_told, .ref q_t_toldLength, .ref q_t_toldRigging, .ref q_t_toldRoom, .int w_t_ringN, .ref q_t_ring, .ref q_t_was, .ref q_t_saved, .ref q_t_isThere, .ref q_t_forms, .ref q_t_sizes, .ref q_t_items, .ref q_t_moved, .int t_finding])), (q_t_boxes, .inl (cZ, 240, .inl t_boxes)), (q_t_ring, .inl (cZ, 40, .inl (upd w_t_ring x4.toNatClampNeg (vp_nar .boolean (t_boxes (x1 + x4).toNatClampNeg)))))]) S hK hw 2 1 b14 dX7_ring_102 rfl rfl rfl (fun H locs hw => ?_)
        refine lv_iinc (v := (x4 + (1 : Int32))) (lv' := [(4, .int (x4 + (1 : Int32))), (0, .ref q_t), (1, .int x1), (2, .int x2), (3, .int x3)]) hx hb dX7_ring_103 hl (k := 4) rfl rfl (by decide) rfl (fun ls hl => ?_)
        refine lv_goto (tgt := 81) hx hb dX7_ring_106 (by decide) ?_
        exact ih (x4 + (1 : Int32)) (upd w_t_ring x4.toNatClampNeg (vp_nar .boolean (t_boxes (x1 + x4).toNatClampNeg))) _ _ _ hw (lv_sub hl [1, 2, 3, 4, 0] rfl) hf
  unfold f_X7_ring at hf
  refine lv_iload_n hx hb dX7_ring_0 rfl (lv_at hl 2 rfl) ?_
  refine lv_iconst (v := (1 : Int32)) hx hb dX7_ring_1 (by decide) ?_
  refine lv_bipush (v := (40 : Int32)) hx hb dX7_ring_2 (by decide) ?_
  obtain ⟨r1, h2, hf⟩ := bd1_some hf
  refine cl_i (wr := [(q_t, .inr (7, [.ref q_t_boxes, .ref q_t_next, .int t_done, .ref q_t_left, .ref q_t_pairs, .int t_many, .ref q_t_lengths, .ref q_t_riggings, .int t_told, .ref q_t_toldLength, .ref q_t_toldRigging, .ref q_t_toldRoom, .int t_ringN, .ref q_t_ring, .ref q_t_was, .ref q_t_saved, .ref q_t_isThere, .ref q_t_forms, .ref q_t_sizes, .ref q_t_items, .ref q_t_moved, .int t_finding])), (q_t_boxes, .inl (cZ, 240, .inl t_boxes)), (q_t_ring, .inl (cZ, 40, .inl t_ring))]) (ws' := [(q_t, .inr (7, [.ref q_t_boxes, .ref q_t_next, .int t_done, .ref q_t_left, .ref q_t_pairs, .int t_many, .ref q_t_lengths, .ref q_t_riggings, .int t_told, .ref q_t_toldLength, .ref q_t_toldRigging, .ref q_t_toldRoom, .int t_ringN, .ref q_t_ring, .ref q_t_was, .ref q_t_saved, .ref q_t_isThere, .ref q_t_forms, .ref q_t_sizes, .ref q_t_items, .ref q_t_moved, .int t_finding])), (q_t_boxes, .inl (cZ, 240, .inl t_boxes)), (q_t_ring, .inl (cZ, 40, .inl t_ring))]) hA hw [] [0, 1, 2] [0, 1, 2] rfl rfl rfl (by decide) rfl rfl (va_runS (As := [.int p2, .int (1 : Int32), .int (40 : Int32)]) (rest := []) S (c_X7_in l D cI cZ cJ cO _ N p2 (1 : Int32) (40 : Int32) r1 h2) (va_cwS 3 hts gX7_ring_X7_in rfl rfl rfl (by decide +kernel) ⟨Nat.le_of_ble_eq_true rfl, Nat.le_of_ble_eq_true rfl⟩) (pre_S hK hN hw [] rfl rfl) rfl rfl hl.1 rfl (lv_room (Nat.le_of_ble_eq_true rfl)) dX7_ring_4 ⟨Nat.zero_le _, Nat.zero_le _⟩) (fun H locs hw => ?_)
  refine lv_if_eq (tgt := 23) hx hb dX7_ring_7 (by decide) (fun c3 => ?_) (fun c3 => ?_)
  · have hf := (if_pos c3).symm.trans hf
    refine lv_bipush (v := (-2 : Int32)) hx hb dX7_ring_23 (by decide) ?_
    obtain ⟨rfl, rfl, rfl⟩ := pr3 (Option.some.inj hf)
    exact rt_i S hr hlk hw dX7_ring_25
  · have hf := (if_neg c3).symm.trans hf
    refine lv_iload_n hx hb dX7_ring_10 rfl (lv_at hl 1 rfl) ?_
    refine lv_iconst (v := (0 : Int32)) hx hb dX7_ring_11 (by decide) ?_
    refine lv_sipush (v := (240 : Int32)) hx hb dX7_ring_12 (by decide) ?_
    refine lv_iload_n hx hb dX7_ring_15 rfl (lv_at hl 2 rfl) ?_
    refine lv_isub hx hb dX7_ring_16 ?_
    obtain ⟨r4, h5, hf⟩ := bd1_some hf
    refine cl_i (wr := [(q_t, .inr (7, [.ref q_t_boxes, .ref q_t_next, .int t_done, .ref q_t_left, .ref q_t_pairs, .int t_many, .ref q_t_lengths, .ref q_t_riggings, .int t_told, .ref q_t_toldLength, .ref q_t_toldRigging, .ref q_t_toldRoom, .int t_ringN, .ref q_t_ring, .ref q_t_was, .ref q_t_saved, .ref q_t_isThere, .ref q_t_forms, .ref q_t_sizes, .ref q_t_items, .ref q_t_moved, .int t_finding])), (q_t_boxes, .inl (cZ, 240, .inl t_boxes)), (q_t_ring, .inl (cZ, 40, .inl t_ring))]) (ws' := [(q_t, .inr (7, [.ref q_t_boxes, .ref q_t_next, .int t_done, .ref q_t_left, .ref q_t_pairs, .int t_many, .ref q_t_lengths, .ref q_t_riggings, .int t_told, .ref q_t_toldLength, .ref q_t_toldRigging, .ref q_t_toldRoom, .int t_ringN, .ref q_t_ring, .ref q_t_was, .ref q_t_saved, .ref q_t_isThere, .ref q_t_forms, .ref q_t_sizes, .ref q_t_items, .ref q_t_moved, .int t_finding])), (q_t_boxes, .inl (cZ, 240, .inl t_boxes)), (q_t_ring, .inl (cZ, 40, .inl t_ring))]) hA hw [] [0, 1, 2] [0, 1, 2] rfl rfl rfl (by decide) rfl rfl (va_runS (As := [.int p1, .int (0 : Int32), .int ((240 : Int32) - p2)]) (rest := []) S (c_X7_in l D cI cZ cJ cO _ N p1 (0 : Int32) ((240 : Int32) - p2) r4 h5) (va_cwS 3 hts gX7_ring_X7_in rfl rfl rfl (by decide +kernel) ⟨Nat.le_of_ble_eq_true rfl, Nat.le_of_ble_eq_true rfl⟩) (pre_S hK hN hw [] rfl rfl) rfl rfl hl.1 rfl (lv_room (Nat.le_of_ble_eq_true rfl)) dX7_ring_17 ⟨Nat.zero_le _, Nat.zero_le _⟩) (fun H locs hw => ?_)
    refine lv_if_ne (tgt := 26) hx hb dX7_ring_20 (by decide) (fun c6 => ?_) (fun c6 => ?_)
    · have hf := (if_neg c6).symm.trans hf
      refine lv_iconst (v := (0 : Int32)) hx hb dX7_ring_26 (by decide) ?_
      refine lv_istore_n (lv' := [(3, .int (0 : Int32)), (0, .ref q_t), (1, .int p1), (2, .int p2)]) hx hb dX7_ring_27 rfl hl (by decide) rfl (fun ls hl => ?_)
      refine lv_iconst (v := (0 : Int32)) hx hb dX7_ring_28 (by decide) ?_
      refine lv_istore (lv' := [(4, .int (0 : Int32)), (3, .int (0 : Int32)), (0, .ref q_t), (1, .int p1), (2, .int p2)]) hx hb dX7_ring_29 hl (by decide) rfl (fun ls hl => ?_)
      refine Lp31 p1 p2 t_ringN t_ring _ (fun y10 H locs ls hw hl hf => ?_) N (0 : Int32) (0 : Int32) _ _ _ hw (lv_sub hl [2, 3, 4, 1, 0] rfl) hf
      refine lv_iconst (v := (2 : Int32)) hx hb dX7_ring_63 (by decide) ?_
      refine lv_iload_n hx hb dX7_ring_64 rfl (lv_at hl 3 rfl) ?_
      refine lv_imul hx hb dX7_ring_65 ?_
      refine lv_iload_n hx hb dX7_ring_66 rfl (lv_at hl 2 rfl) ?_
      refine lv_icmp_lt (tgt := 73) hx hb dX7_ring_67 (by decide) (fun c11 => ?_) (fun c11 => ?_)
      · have hf := (if_pos c11).symm.trans hf
        refine lv_aload_n hx hb dX7_ring_73 rfl (lv_at hl 0 rfl) ?_
        refine lv_iload_n hx hb dX7_ring_74 rfl (lv_at hl 2 rfl) ?_
        refine g_put (ci := 7) (C := RX7) (T := TX7) (N := 22) (ws' := [(q_t, .inr (7, [.ref q_t_boxes, .ref q_t_next, .int t_done, .ref q_t_left, .ref q_t_pairs, .int t_many, .ref q_t_lengths, .ref q_t_riggings, .int t_told, .ref q_t_toldLength, .ref q_t_toldRigging, .ref q_t_toldRoom, .int p2, .ref q_t_ring, .ref q_t_was, .ref q_t_saved, .ref q_t_isThere, .ref q_t_forms, .ref q_t_sizes, .ref q_t_items, .ref q_t_moved, .int t_finding])), (q_t_boxes, .inl (cZ, 240, .inl t_boxes)), (q_t_ring, .inl (cZ, 40, .inl t_ring))]) S hinX7 tyX7 tyX7_ok nmX7 hK hw 0 12 k38 dX7_ring_75 rfl rfl (by decide) rfl rfl rfl (Nat.le_of_ble_eq_true rfl) rfl (fun H locs hw => ?_)
        refine lv_iconst (v := (0 : Int32)) hx hb dX7_ring_78 (by decide) ?_
        refine lv_istore (lv' := [(4, .int (0 : Int32)), (0, .ref q_t), (1, .int p1), (2, .int p2), (3, .int y10)]) hx hb dX7_ring_79 hl (by decide) rfl (fun ls hl => ?_)
        refine Lp81 p1 p2 y10 p2 _ (fun u15 H locs ls hw hl hf => ?_) N (0 : Int32) t_ring _ _ _ hw (lv_sub hl [1, 2, 3, 4, 0] rfl) hf
        refine lv_iload_n hx hb dX7_ring_109 rfl (lv_at hl 0 rfl) ?_
        obtain ⟨rfl, rfl, rfl⟩ := pr3 (Option.some.inj hf)
        exact rt_i S hr hlk hw dX7_ring_110
      · have hf := (if_neg c11).symm.trans hf
        refine lv_bipush (v := (-3 : Int32)) hx hb dX7_ring_70 (by decide) ?_
        obtain ⟨rfl, rfl, rfl⟩ := pr3 (Option.some.inj hf)
        exact rt_i S hr hlk hw dX7_ring_72
    · have hf := (if_pos c6).symm.trans hf
      refine lv_bipush (v := (-2 : Int32)) hx hb dX7_ring_23 (by decide) ?_
      obtain ⟨rfl, rfl, rfl⟩ := pr3 (Option.some.inj hf)
      exact rt_i S hr hlk hw dX7_ring_25

def f_X7_ringAt (N : Nat) (p1 : Int32) (t_ringN : Int32) (t_ring : (Nat → Int32)) : Option (Int32) :=
  (bd1 (f_X7_in N p1 (0 : Int32) (t_ringN - (1 : Int32))) (fun r1 => (if r1 = (0 : Int32) then (some (-2 : Int32)) else (ck (inb p1 40) (if (t_ring p1.toNatClampNeg) = (0 : Int32) then (some (0 : Int32)) else (some (1 : Int32)))))))

set_option maxHeartbeats 4000000 in
set_option maxRecDepth 100000 in
theorem c_X7_ringAt (l : Launch) (D : va_G) (cI cZ cJ cO : ClassId) (sz : Nat) (q_t q_t_boxes q_t_next q_t_left q_t_pairs q_t_lengths q_t_riggings q_t_toldLength q_t_toldRigging q_t_toldRoom q_t_ring q_t_was q_t_saved q_t_isThere q_t_forms q_t_sizes q_t_items q_t_moved : Nat) (N : Nat) (p1 : Int32) (t_done : Int32) (t_many : Int32) (t_told : Int32) (t_ringN : Int32) (t_finding : Int32) (t_ring : (Nat → Int32)) (r : Int32) (hf : f_X7_ringAt N p1 t_ringN t_ring = some r) : Met l yX7_ringAt wsX7_ringAt ({ frames := 1, cells := 0, slots := 0, locals := 22 }) (PreC D (TY cI cZ cJ cO) [.ref q_t, .int p1] [(q_t, .inr (7, [.ref q_t_boxes, .ref q_t_next, .int t_done, .ref q_t_left, .ref q_t_pairs, .int t_many, .ref q_t_lengths, .ref q_t_riggings, .int t_told, .ref q_t_toldLength, .ref q_t_toldRigging, .ref q_t_toldRoom, .int t_ringN, .ref q_t_ring, .ref q_t_was, .ref q_t_saved, .ref q_t_isThere, .ref q_t_forms, .ref q_t_sizes, .ref q_t_items, .ref q_t_moved, .int t_finding])), (q_t_ring, .inl (cZ, 40, .inl t_ring))] sz) (QcI D [(q_t, .inr (7, [.ref q_t_boxes, .ref q_t_next, .int t_done, .ref q_t_left, .ref q_t_pairs, .int t_many, .ref q_t_lengths, .ref q_t_riggings, .int t_told, .ref q_t_toldLength, .ref q_t_toldRigging, .ref q_t_toldRoom, .int t_ringN, .ref q_t_ring, .ref q_t_was, .ref q_t_saved, .ref q_t_isThere, .ref q_t_forms, .ref q_t_sizes, .ref q_t_items, .ref q_t_moved, .int t_finding])), (q_t_ring, .inl (cZ, 40, .inl t_ring))] (va_A [(q_t, .inr (7, [.ref q_t_boxes, .ref q_t_next, .int t_done, .ref q_t_left, .ref q_t_pairs, .int t_many, .ref q_t_lengths, .ref q_t_riggings, .int t_told, .ref q_t_toldLength, .ref q_t_toldRigging, .ref q_t_toldRoom, .int t_ringN, .ref q_t_ring, .ref q_t_was, .ref q_t_saved, .ref q_t_isThere, .ref q_t_forms, .ref q_t_sizes, .ref q_t_items, .ref q_t_moved, .int t_finding])), (q_t_ring, .inl (cZ, 40, .inl t_ring))] sz) r) 0 0 (va_A [(q_t, .inr (7, [.ref q_t_boxes, .ref q_t_next, .int t_done, .ref q_t_left, .ref q_t_pairs, .int t_many, .ref q_t_lengths, .ref q_t_riggings, .int t_told, .ref q_t_toldLength, .ref q_t_toldRigging, .ref q_t_toldRoom, .int t_ringN, .ref q_t_ring, .ref q_t_was, .ref q_t_saved, .ref q_t_isThere, .ref q_t_forms, .ref q_t_sizes, .ref q_t_items, .ref q_t_moved, .int t_finding])), (q_t_ring, .inl (cZ, 40, .inl t_ring))] sz) := by
  refine ctr (cc := cX7_ringAt) (maxL := 2) (ret := (some .int)) (by decide) rfl (Nat.le_of_ble_eq_true rfl) ?_
  intro p e s m below meth c S hr hlk hnm hK hN hsz hA hw ls hl
  generalize va_A [(q_t, .inr (7, [.ref q_t_boxes, .ref q_t_next, .int t_done, .ref q_t_left, .ref q_t_pairs, .int t_many, .ref q_t_lengths, .ref q_t_riggings, .int t_told, .ref q_t_toldLength, .ref q_t_toldRigging, .ref q_t_toldRoom, .int t_ringN, .ref q_t_ring, .ref q_t_was, .ref q_t_saved, .ref q_t_isThere, .ref q_t_forms, .ref q_t_sizes, .ref q_t_items, .ref q_t_moved, .int t_finding])), (q_t_ring, .inl (cZ, 40, .inl t_ring))] sz = A at hA hw ⊢
  have S : CallFix p m c cX7_ringAt 2 s ([.ref q_t, .int p1] : List Value).toArray wsX7_ringAt RX7 := S
  have hx := S.1
  have hb := S.2.1
  have hts := S.2.2.2.2
  have hl : lv_has ls 2 [(0, .ref q_t), (1, .int p1)] := hl
  have hinX7 : ∀ w ∈ u_ws RX7 TX7 22, w ∈ wsX7_ringAt := by decide +kernel
  have k38 : Cond.fieldLink RX7 38 "BallBoxesModel" "ringN" "I" ∈ wsX7_ringAt := by decide +kernel
  have k42 : Cond.fieldLink RX7 42 "BallBoxesModel" "ring" "[Z" ∈ wsX7_ringAt := by decide +kernel
  unfold f_X7_ringAt at hf
  refine lv_iload_n hx hb dX7_ringAt_0 rfl (lv_at hl 1 rfl) ?_
  refine lv_iconst (v := (0 : Int32)) hx hb dX7_ringAt_1 (by decide) ?_
  refine lv_aload_n hx hb dX7_ringAt_2 rfl (lv_at hl 0 rfl) ?_
  refine g_get (ci := 7) (C := RX7) (T := TX7) (N := 22) S hinX7 hK hw 0 12 k38 dX7_ringAt_3 rfl rfl (by decide) rfl ?_
  refine lv_iconst (v := (1 : Int32)) hx hb dX7_ringAt_6 (by decide) ?_
  refine lv_isub hx hb dX7_ringAt_7 ?_
  obtain ⟨r1, h2, hf⟩ := bd1_some hf
  refine cl_i (wr := [(q_t, .inr (7, [.ref q_t_boxes, .ref q_t_next, .int t_done, .ref q_t_left, .ref q_t_pairs, .int t_many, .ref q_t_lengths, .ref q_t_riggings, .int t_told, .ref q_t_toldLength, .ref q_t_toldRigging, .ref q_t_toldRoom, .int t_ringN, .ref q_t_ring, .ref q_t_was, .ref q_t_saved, .ref q_t_isThere, .ref q_t_forms, .ref q_t_sizes, .ref q_t_items, .ref q_t_moved, .int t_finding])), (q_t_ring, .inl (cZ, 40, .inl t_ring))]) (ws' := [(q_t, .inr (7, [.ref q_t_boxes, .ref q_t_next, .int t_done, .ref q_t_left, .ref q_t_pairs, .int t_many, .ref q_t_lengths, .ref q_t_riggings, .int t_told, .ref q_t_toldLength, .ref q_t_toldRigging, .ref q_t_toldRoom, .int t_ringN, .ref q_t_ring, .ref q_t_was, .ref q_t_saved, .ref q_t_isThere, .ref q_t_forms, .ref q_t_sizes, .ref q_t_items, .ref q_t_moved, .int t_finding])), (q_t_ring, .inl (cZ, 40, .inl t_ring))]) hA hw [] [0, 1] [0, 1] rfl rfl rfl (by decide) rfl rfl (va_runS (As := [.int p1, .int (0 : Int32), .int (t_ringN - (1 : Int32))]) (rest := []) S (c_X7_in l D cI cZ cJ cO _ N p1 (0 : Int32) (t_ringN - (1 : Int32)) r1 h2) (va_cwS 3 hts gX7_ringAt_X7_in rfl rfl rfl (by decide +kernel) ⟨Nat.le_of_ble_eq_true rfl, Nat.le_of_ble_eq_true rfl⟩) (pre_S hK hN hw [] rfl rfl) rfl rfl hl.1 rfl (lv_room (Nat.le_of_ble_eq_true rfl)) dX7_ringAt_8 ⟨Nat.zero_le _, Nat.zero_le _⟩) (fun H locs hw => ?_)
  refine lv_if_eq (tgt := 31) hx hb dX7_ringAt_11 (by decide) (fun c3 => ?_) (fun c3 => ?_)
  · have hf := (if_pos c3).symm.trans hf
    refine lv_bipush (v := (-2 : Int32)) hx hb dX7_ringAt_31 (by decide) ?_
    obtain rfl := Option.some.inj hf
    exact rt_i S hr hlk hw dX7_ringAt_33
  · have hf := (if_neg c3).symm.trans hf
    refine lv_aload_n hx hb dX7_ringAt_14 rfl (lv_at hl 0 rfl) ?_
    refine g_get (ci := 7) (C := RX7) (T := TX7) (N := 22) S hinX7 hK hw 0 13 k42 dX7_ringAt_15 rfl rfl (by decide) rfl ?_
    refine lv_iload_n hx hb dX7_ringAt_18 rfl (lv_at hl 1 rfl) ?_
    obtain ⟨b4, hf⟩ := ck_some hf
    refine g_zald S hK hw 1 1 b4 dX7_ringAt_19 rfl rfl ?_
    refine lv_if_eq (tgt := 27) hx hb dX7_ringAt_20 (by decide) (fun c5 => ?_) (fun c5 => ?_)
    · have hf := (if_pos c5).symm.trans hf
      refine lv_iconst (v := (0 : Int32)) hx hb dX7_ringAt_27 (by decide) ?_
      refine lv_goto (tgt := 33) hx hb dX7_ringAt_28 (by decide) ?_
      obtain rfl := Option.some.inj hf
      exact rt_i S hr hlk hw dX7_ringAt_33
    · have hf := (if_neg c5).symm.trans hf
      refine lv_iconst (v := (1 : Int32)) hx hb dX7_ringAt_23 (by decide) ?_
      refine lv_goto (tgt := 33) hx hb dX7_ringAt_24 (by decide) ?_
      obtain rfl := Option.some.inj hf
      exact rt_i S hr hlk hw dX7_ringAt_33

def L_X7_turns_4 (N : Nat) (x1 : Int32) (t_ringN : Int32) (w_t_ring : (Nat → Int32)) (K : Int32 → Option (Int32 × (Nat → Int32))) : Nat → Int32 → Int32 → Option (Int32 × (Nat → Int32))
  | 0, _, _ => none
  | n + 1, x2, x3 => (if t_ringN ≤ x3 then (K x2) else (ck (inb x3 40) (if (w_t_ring x3.toNatClampNeg) = (0 : Int32) then (if x2 ≤ (0 : Int32) then (L_X7_turns_4 N x1 t_ringN w_t_ring K n (x2 + (0 : Int32)) (x3 + (1 : Int32))) else (L_X7_turns_4 N x1 t_ringN w_t_ring K n (x2 + (-1 : Int32)) (x3 + (1 : Int32)))) else (if x1 ≤ x2 then (L_X7_turns_4 N x1 t_ringN w_t_ring K n (x2 + (0 : Int32)) (x3 + (1 : Int32))) else (L_X7_turns_4 N x1 t_ringN w_t_ring K n (x2 + (1 : Int32)) (x3 + (1 : Int32)))))))

def L_X7_turns_57 (N : Nat) (x1 : Int32) (t_ringN : Int32) (K : (Nat → Int32) → Option (Int32 × (Nat → Int32))) : Nat → Int32 → Int32 → (Nat → Int32) → Option (Int32 × (Nat → Int32))
  | 0, _, _, _ => none
  | n + 1, x2, x4, w_t_ring => (if t_ringN ≤ x4 then (K w_t_ring) else (ck (inb x4 40) (if (w_t_ring x4.toNatClampNeg) = (0 : Int32) then (ck (inb x4 40) (if (w_t_ring x4.toNatClampNeg) = (0 : Int32) then (if x2 ≤ (0 : Int32) then (L_X7_turns_57 N x1 t_ringN K n x2 (x4 + (1 : Int32)) w_t_ring) else (ck (inb x4 40) (L_X7_turns_57 N x1 t_ringN K n (x2 + (-1 : Int32)) (x4 + (1 : Int32)) (upd w_t_ring x4.toNatClampNeg (vp_nar .boolean (1 : Int32)))))) else (L_X7_turns_57 N x1 t_ringN K n x2 (x4 + (1 : Int32)) w_t_ring))) else (if x1 ≤ x2 then (ck (inb x4 40) (if (w_t_ring x4.toNatClampNeg) = (0 : Int32) then (if x2 ≤ (0 : Int32) then (L_X7_turns_57 N x1 t_ringN K n x2 (x4 + (1 : Int32)) w_t_ring) else (ck (inb x4 40) (L_X7_turns_57 N x1 t_ringN K n (x2 + (-1 : Int32)) (x4 + (1 : Int32)) (upd w_t_ring x4.toNatClampNeg (vp_nar .boolean (1 : Int32)))))) else (L_X7_turns_57 N x1 t_ringN K n x2 (x4 + (1 : Int32)) w_t_ring))) else (ck (inb x4 40) (L_X7_turns_57 N x1 t_ringN K n (x2 + (1 : Int32)) (x4 + (1 : Int32)) (upd w_t_ring x4.toNatClampNeg (vp_nar .boolean (0 : Int32)))))))))

def f_X7_turns (N : Nat) (p1 : Int32) (t_ringN : Int32) (t_ring : (Nat → Int32)) : Option (Int32 × (Nat → Int32)) :=
  (L_X7_turns_4 N p1 t_ringN t_ring (fun y6 => (L_X7_turns_57 N p1 t_ringN (fun u20 => (some (y6, u20))) N y6 (0 : Int32) t_ring)) N (0 : Int32) (0 : Int32))

set_option maxHeartbeats 4000000 in
set_option maxRecDepth 100000 in
theorem c_X7_turns (l : Launch) (D : va_G) (cI cZ cJ cO : ClassId) (sz : Nat) (q_t q_t_boxes q_t_next q_t_left q_t_pairs q_t_lengths q_t_riggings q_t_toldLength q_t_toldRigging q_t_toldRoom q_t_ring q_t_was q_t_saved q_t_isThere q_t_forms q_t_sizes q_t_items q_t_moved : Nat) (N : Nat) (p1 : Int32) (t_done : Int32) (t_many : Int32) (t_told : Int32) (t_ringN : Int32) (t_finding : Int32) (t_ring : (Nat → Int32)) (r : Int32) (o_t_ring : (Nat → Int32)) (hf : f_X7_turns N p1 t_ringN t_ring = some (r, o_t_ring)) : Met l yX7_turns wsX7_turns ({ frames := 0, cells := 0, slots := 0, locals := 0 }) (PreC D (TY cI cZ cJ cO) [.ref q_t, .int p1] [(q_t, .inr (7, [.ref q_t_boxes, .ref q_t_next, .int t_done, .ref q_t_left, .ref q_t_pairs, .int t_many, .ref q_t_lengths, .ref q_t_riggings, .int t_told, .ref q_t_toldLength, .ref q_t_toldRigging, .ref q_t_toldRoom, .int t_ringN, .ref q_t_ring, .ref q_t_was, .ref q_t_saved, .ref q_t_isThere, .ref q_t_forms, .ref q_t_sizes, .ref q_t_items, .ref q_t_moved, .int t_finding])), (q_t_ring, .inl (cZ, 40, .inl t_ring))] sz) (QcI D [(q_t, .inr (7, [.ref q_t_boxes, .ref q_t_next, .int t_done, .ref q_t_left, .ref q_t_pairs, .int t_many, .ref q_t_lengths, .ref q_t_riggings, .int t_told, .ref q_t_toldLength, .ref q_t_toldRigging, .ref q_t_toldRoom, .int t_ringN, .ref q_t_ring, .ref q_t_was, .ref q_t_saved, .ref q_t_isThere, .ref q_t_forms, .ref q_t_sizes, .ref q_t_items, .ref q_t_moved, .int t_finding])), (q_t_ring, .inl (cZ, 40, .inl o_t_ring))] (va_A [(q_t, .inr (7, [.ref q_t_boxes, .ref q_t_next, .int t_done, .ref q_t_left, .ref q_t_pairs, .int t_many, .ref q_t_lengths, .ref q_t_riggings, .int t_told, .ref q_t_toldLength, .ref q_t_toldRigging, .ref q_t_toldRoom, .int t_ringN, .ref q_t_ring, .ref q_t_was, .ref q_t_saved, .ref q_t_isThere, .ref q_t_forms, .ref q_t_sizes, .ref q_t_items, .ref q_t_moved, .int t_finding])), (q_t_ring, .inl (cZ, 40, .inl t_ring))] sz) r) 0 0 (va_A [(q_t, .inr (7, [.ref q_t_boxes, .ref q_t_next, .int t_done, .ref q_t_left, .ref q_t_pairs, .int t_many, .ref q_t_lengths, .ref q_t_riggings, .int t_told, .ref q_t_toldLength, .ref q_t_toldRigging, .ref q_t_toldRoom, .int t_ringN, .ref q_t_ring, .ref q_t_was, .ref q_t_saved, .ref q_t_isThere, .ref q_t_forms, .ref q_t_sizes, .ref q_t_items, .ref q_t_moved, .int t_finding])), (q_t_ring, .inl (cZ, 40, .inl t_ring))] sz) := by
  refine ctr (cc := cX7_turns) (maxL := 5) (ret := (some .int)) (by decide) rfl (Nat.le_of_ble_eq_true rfl) ?_
  intro p e s m below meth c S hr hlk hnm hK hN hsz hA hw ls hl
  generalize va_A [(q_t, .inr (7, [.ref q_t_boxes, .ref q_t_next, .int t_done, .ref q_t_left, .ref q_t_pairs, .int t_many, .ref q_t_lengths, .ref q_t_riggings, .int t_told, .ref q_t_toldLength, .ref q_t_toldRigging, .ref q_t_toldRoom, .int t_ringN, .ref q_t_ring, .ref q_t_was, .ref q_t_saved, .ref q_t_isThere, .ref q_t_forms, .ref q_t_sizes, .ref q_t_items, .ref q_t_moved, .int t_finding])), (q_t_ring, .inl (cZ, 40, .inl t_ring))] sz = A at hA hw ⊢
  have S : CallFix p m c cX7_turns 5 s ([.ref q_t, .int p1] : List Value).toArray wsX7_turns RX7 := S
  have hx := S.1
  have hb := S.2.1
  have hts := S.2.2.2.2
  have hl : lv_has ls 5 [(0, .ref q_t), (1, .int p1)] := hl
  have hinX7 : ∀ w ∈ u_ws RX7 TX7 22, w ∈ wsX7_turns := by decide +kernel
  have k38 : Cond.fieldLink RX7 38 "BallBoxesModel" "ringN" "I" ∈ wsX7_turns := by decide +kernel
  have k42 : Cond.fieldLink RX7 42 "BallBoxesModel" "ring" "[Z" ∈ wsX7_turns := by decide +kernel
  have Lp4 : ∀ (x1 : Int32) (w_t_ring : (Nat → Int32)) (K : Int32 → Option (Int32 × (Nat → Int32))), (∀ (z2 : Int32) (H : Heap) (locs : List Loc) (ls : Array Slot), Wd D A s.heap [(q_t, .inr (7, [.ref q_t_boxes, .ref q_t_next, .int t_done, .ref q_t_left, .ref q_t_pairs, .int t_many, .ref q_t_lengths, .ref q_t_riggings, .int t_told, .ref q_t_toldLength, .ref q_t_toldRigging, .ref q_t_toldRoom, .int t_ringN, .ref q_t_ring, .ref q_t_was, .ref q_t_saved, .ref q_t_isThere, .ref q_t_forms, .ref q_t_sizes, .ref q_t_items, .ref q_t_moved, .int t_finding])), (q_t_ring, .inl (cZ, 40, .inl w_t_ring))] H locs → lv_has ls 5 [(0, .ref q_t), (1, .int x1), (2, .int z2)] → K z2 = some (r, o_t_ring) → W p l e ({ frames := 0, cells := 0, slots := 0, locals := 0 } : Room) s m ([.ref q_t, .int p1] : List Value).toArray below meth c H locs 0 0 (MQ below (QcI D [(q_t, .inr (7, [.ref q_t_boxes, .ref q_t_next, .int t_done, .ref q_t_left, .ref q_t_pairs, .int t_many, .ref q_t_lengths, .ref q_t_riggings, .int t_told, .ref q_t_toldLength, .ref q_t_toldRigging, .ref q_t_toldRoom, .int t_ringN, .ref q_t_ring, .ref q_t_was, .ref q_t_saved, .ref q_t_isThere, .ref q_t_forms, .ref q_t_sizes, .ref q_t_items, .ref q_t_moved, .int t_finding])), (q_t_ring, .inl (cZ, 40, .inl o_t_ring))] A r) ([.ref q_t, .int p1] : List Value).toArray s 0 0 A) (F0 m 52 ls [])) → ∀ (n : Nat) (x2 : Int32) (x3 : Int32) (H : Heap) (locs : List Loc) (ls : Array Slot), Wd D A s.heap [(q_t, .inr (7, [.ref q_t_boxes, .ref q_t_next, .int t_done, .ref q_t_left, .ref q_t_pairs, .int t_many, .ref q_t_lengths, .ref q_t_riggings, .int t_told, .ref q_t_toldLength, .ref q_t_toldRigging, .ref q_t_toldRoom, .int t_ringN, .ref q_t_ring, .ref q_t_was, .ref q_t_saved, .ref q_t_isThere, .ref q_t_forms, .ref q_t_sizes, .ref q_t_items, .ref q_t_moved, .int t_finding])), (q_t_ring, .inl (cZ, 40, .inl w_t_ring))] H locs → lv_has ls 5 [(0, .ref q_t), (1, .int x1), (2, .int x2), (3, .int x3)] → L_X7_turns_4 N x1 t_ringN w_t_ring K n x2 x3 = some (r, o_t_ring) → W p l e ({ frames := 0, cells := 0, slots := 0, locals := 0 } : Room) s m ([.ref q_t, .int p1] : List Value).toArray below meth c H locs 0 0 (MQ below (QcI D [(q_t, .inr (7, [.ref q_t_boxes, .ref q_t_next, .int t_done, .ref q_t_left, .ref q_t_pairs, .int t_many, .ref q_t_lengths, .ref q_t_riggings, .int t_told, .ref q_t_toldLength, .ref q_t_toldRigging, .ref q_t_toldRoom, .int t_ringN, .ref q_t_ring, .ref q_t_was, .ref q_t_saved, .ref q_t_isThere, .ref q_t_forms, .ref q_t_sizes, .ref q_t_items, .ref q_t_moved, .int t_finding])), (q_t_ring, .inl (cZ, 40, .inl o_t_ring))] A r) ([.ref q_t, .int p1] : List Value).toArray s 0 0 A) (F0 m 4 ls []) := by
    intro x1 w_t_ring K hKx n
    induction n with
    | zero =>
      intro x2 x3 H locs ls hw hl hf
      rw [L_X7_turns_4] at hf
      cases hf
    | succ n ih =>
      intro x2 x3 H locs ls hw hl hf
      rw [L_X7_turns_4] at hf
      refine lv_iload_n hx hb dX7_turns_4 rfl (lv_at hl 3 rfl) ?_
      refine lv_aload_n hx hb dX7_turns_5 rfl (lv_at hl 0 rfl) ?_
      refine g_get (ci := 7) (C := RX7) (T := TX7) (N := 22) S hinX7 hK hw 0 12 k38 dX7_turns_6 rfl rfl (by decide) rfl ?_
      refine lv_icmp_ge (tgt := 52) hx hb dX7_turns_9 (by decide) (fun c1 => ?_) (fun c1 => ?_)
      · have hf := (if_pos c1).symm.trans hf
        exact hKx x2 _ _ _ hw (lv_sub hl [0, 1, 2] rfl) hf
      · have hf := (if_neg c1).symm.trans hf
        refine lv_iload_n hx hb dX7_turns_12 rfl (lv_at hl 2 rfl) ?_
        refine lv_aload_n hx hb dX7_turns_13 rfl (lv_at hl 0 rfl) ?_
        refine g_get (ci := 7) (C := RX7) (T := TX7) (N := 22) S hinX7 hK hw 0 13 k42 dX7_turns_14 rfl rfl (by decide) rfl ?_
        refine lv_iload_n hx hb dX7_turns_17 rfl (lv_at hl 3 rfl) ?_
        obtain ⟨b2, hf⟩ := ck_some hf
        refine g_zald S hK hw 1 1 b2 dX7_turns_18 rfl rfl ?_
        refine lv_if_eq (tgt := 35) hx hb dX7_turns_19 (by decide) (fun c3 => ?_) (fun c3 => ?_)
        · have hf := (if_pos c3).symm.trans hf
          refine lv_iload_n hx hb dX7_turns_35 rfl (lv_at hl 2 rfl) ?_
          refine lv_if_le (tgt := 43) hx hb dX7_turns_36 (by decide) (fun c4 => ?_) (fun c4 => ?_)
          · have hf := (if_pos c4).symm.trans hf
            refine lv_iconst (v := (0 : Int32)) hx hb dX7_turns_43 (by decide) ?_
            refine lv_iadd hx hb dX7_turns_44 ?_
            refine lv_istore_n (lv' := [(2, .int (x2 + (0 : Int32))), (0, .ref q_t), (1, .int x1), (3, .int x3)]) hx hb dX7_turns_45 rfl hl (by decide) rfl (fun ls hl => ?_)
            refine lv_iinc (v := (x3 + (1 : Int32))) (lv' := [(3, .int (x3 + (1 : Int32))), (2, .int (x2 + (0 : Int32))), (0, .ref q_t), (1, .int x1)]) hx hb dX7_turns_46 hl (k := 3) rfl rfl (by decide) rfl (fun ls hl => ?_)
            refine lv_goto (tgt := 4) hx hb dX7_turns_49 (by decide) ?_
            exact ih (x2 + (0 : Int32)) (x3 + (1 : Int32)) _ _ _ hw (lv_sub hl [2, 3, 1, 0] rfl) hf
          · have hf := (if_neg c4).symm.trans hf
            refine lv_iconst (v := (-1 : Int32)) hx hb dX7_turns_39 (by decide) ?_
            refine lv_goto (tgt := 44) hx hb dX7_turns_40 (by decide) ?_
            refine lv_iadd hx hb dX7_turns_44 ?_
            refine lv_istore_n (lv' := [(2, .int (x2 + (-1 : Int32))), (0, .ref q_t), (1, .int x1), (3, .int x3)]) hx hb dX7_turns_45 rfl hl (by decide) rfl (fun ls hl => ?_)
            refine lv_iinc (v := (x3 + (1 : Int32))) (lv' := [(3, .int (x3 + (1 : Int32))), (2, .int (x2 + (-1 : Int32))), (0, .ref q_t), (1, .int x1)]) hx hb dX7_turns_46 hl (k := 3) rfl rfl (by decide) rfl (fun ls hl => ?_)
            refine lv_goto (tgt := 4) hx hb dX7_turns_49 (by decide) ?_
            exact ih (x2 + (-1 : Int32)) (x3 + (1 : Int32)) _ _ _ hw (lv_sub hl [2, 3, 1, 0] rfl) hf
        · have hf := (if_neg c3).symm.trans hf
          refine lv_iload_n hx hb dX7_turns_22 rfl (lv_at hl 2 rfl) ?_
          refine lv_iload_n hx hb dX7_turns_23 rfl (lv_at hl 1 rfl) ?_
          refine lv_icmp_ge (tgt := 31) hx hb dX7_turns_24 (by decide) (fun c5 => ?_) (fun c5 => ?_)
          · have hf := (if_pos c5).symm.trans hf
            refine lv_iconst (v := (0 : Int32)) hx hb dX7_turns_31 (by decide) ?_
            refine lv_goto (tgt := 44) hx hb dX7_turns_32 (by decide) ?_
            refine lv_iadd hx hb dX7_turns_44 ?_
            refine lv_istore_n (lv' := [(2, .int (x2 + (0 : Int32))), (0, .ref q_t), (1, .int x1), (3, .int x3)]) hx hb dX7_turns_45 rfl hl (by decide) rfl (fun ls hl => ?_)
            refine lv_iinc (v := (x3 + (1 : Int32))) (lv' := [(3, .int (x3 + (1 : Int32))), (2, .int (x2 + (0 : Int32))), (0, .ref q_t), (1, .int x1)]) hx hb dX7_turns_46 hl (k := 3) rfl rfl (by decide) rfl (fun ls hl => ?_)
            refine lv_goto (tgt := 4) hx hb dX7_turns_49 (by decide) ?_
            exact ih (x2 + (0 : Int32)) (x3 + (1 : Int32)) _ _ _ hw (lv_sub hl [2, 3, 1, 0] rfl) hf
          · have hf := (if_neg c5).symm.trans hf
            refine lv_iconst (v := (1 : Int32)) hx hb dX7_turns_27 (by decide) ?_
            refine lv_goto (tgt := 44) hx hb dX7_turns_28 (by decide) ?_
            refine lv_iadd hx hb dX7_turns_44 ?_
            refine lv_istore_n (lv' := [(2, .int (x2 + (1 : Int32))), (0, .ref q_t), (1, .int x1), (3, .int x3)]) hx hb dX7_turns_45 rfl hl (by decide) rfl (fun ls hl => ?_)
            refine lv_iinc (v := (x3 + (1 : Int32))) (lv' := [(3, .int (x3 + (1 : Int32))), (2, .int (x2 + (1 : Int32))), (0, .ref q_t), (1, .int x1)]) hx hb dX7_turns_46 hl (k := 3) rfl rfl (by decide) rfl (fun ls hl => ?_)
            refine lv_goto (tgt := 4) hx hb dX7_turns_49 (by decide) ?_
            exact ih (x2 + (1 : Int32)) (x3 + (1 : Int32)) _ _ _ hw (lv_sub hl [2, 3, 1, 0] rfl) hf
  have Lp57 : ∀ (x1 : Int32) (x3 : Int32) (K : (Nat → Int32) → Option (Int32 × (Nat → Int32))), (∀ (z_t_ring : (Nat → Int32)) (H : Heap) (locs : List Loc) (ls : Array Slot), Wd D A s.heap [(q_t, .inr (7, [.ref q_t_boxes, .ref q_t_next, .int t_done, .ref q_t_left, .ref q_t_pairs, .int t_many, .ref q_t_lengths, .ref q_t_riggings, .int t_told, .ref q_t_toldLength, .ref q_t_toldRigging, .ref q_t_toldRoom, .int t_ringN, .ref q_t_ring, .ref q_t_was, .ref q_t_saved, .ref q_t_isThere, .ref q_t_forms, .ref q_t_sizes, .ref q_t_items, .ref q_t_moved, .int t_finding])), (q_t_ring, .inl (cZ, 40, .inl z_t_ring))] H locs → lv_has ls 5 [(3, .int x3)] → K z_t_ring = some (r, o_t_ring) → W p l e ({ frames := 0, cells := 0, slots := 0, locals := 0 } : Room) s m ([.ref q_t, .int p1] : List Value).toArray below meth c H locs 0 0 (MQ below (QcI D [(q_t, .inr (7, [.ref q_t_boxes, .ref q_t_next, .int t_done, .ref q_t_left, .ref q_t_pairs, .int t_many, .ref q_t_lengths, .ref q_t_riggings, .int t_told, .ref q_t_toldLength, .ref q_t_toldRigging, .ref q_t_toldRoom, .int t_ringN, .ref q_t_ring, .ref q_t_was, .ref q_t_saved, .ref q_t_isThere, .ref q_t_forms, .ref q_t_sizes, .ref q_t_items, .ref q_t_moved, .int t_finding])), (q_t_ring, .inl (cZ, 40, .inl o_t_ring))] A r) ([.ref q_t, .int p1] : List Value).toArray s 0 0 A) (F0 m 126 ls [])) → ∀ (n : Nat) (x2 : Int32) (x4 : Int32) (w_t_ring : (Nat → Int32)) (H : Heap) (locs : List Loc) (ls : Array Slot), Wd D A s.heap [(q_t, .inr (7, [.ref q_t_boxes, .ref q_t_next, .int t_done, .ref q_t_left, .ref q_t_pairs, .int t_many, .ref q_t_lengths, .ref q_t_riggings, .int t_told, .ref q_t_toldLength, .ref q_t_toldRigging, .ref q_t_toldRoom, .int t_ringN, .ref q_t_ring, .ref q_t_was, .ref q_t_saved, .ref q_t_isThere, .ref q_t_forms, .ref q_t_sizes, .ref q_t_items, .ref q_t_moved, .int t_finding])), (q_t_ring, .inl (cZ, 40, .inl w_t_ring))] H locs → lv_has ls 5 [(0, .ref q_t), (1, .int x1), (2, .int x2), (3, .int x3), (4, .int x4)] → L_X7_turns_57 N x1 t_ringN K n x2 x4 w_t_ring = some (r, o_t_ring) → W p l e ({ frames := 0, cells := 0, slots := 0, locals := 0 } : Room) s m ([.ref q_t, .int p1] : List Value).toArray below meth c H locs 0 0 (MQ below (QcI D [(q_t, .inr (7, [.ref q_t_boxes, .ref q_t_next, .int t_done, .ref q_t_left, .ref q_t_pairs, .int t_many, .ref q_t_lengths, .ref q_t_riggings, .int t_told, .ref q_t_toldLength, .ref q_t_toldRigging, .ref q_t_toldRoom, .int t_ringN, .ref q_t_ring, .ref q_t_was, .ref q_t_saved, .ref q_t_isThere, .ref q_t_forms, .ref q_t_sizes, .ref q_t_items, .ref q_t_moved, .int t_finding])), (q_t_ring, .inl (cZ, 40, .inl o_t_ring))] A r) ([.ref q_t, .int p1] : List Value).toArray s 0 0 A) (F0 m 57 ls []) := by
    intro x1 x3 K hKx n
    induction n with
    | zero =>
      intro x2 x4 w_t_ring H locs ls hw hl hf
      rw [L_X7_turns_57] at hf
      cases hf
    | succ n ih =>
      intro x2 x4 w_t_ring H locs ls hw hl hf
      rw [L_X7_turns_57] at hf
      refine lv_iload hx hb dX7_turns_57 (lv_at hl 4 rfl) ?_
      refine lv_aload_n hx hb dX7_turns_59 rfl (lv_at hl 0 rfl) ?_
      refine g_get (ci := 7) (C := RX7) (T := TX7) (N := 22) S hinX7 hK hw 0 12 k38 dX7_turns_60 rfl rfl (by decide) rfl ?_
      refine lv_icmp_ge (tgt := 126) hx hb dX7_turns_63 (by decide) (fun c7 => ?_) (fun c7 => ?_)
      · have hf := (if_pos c7).symm.trans hf
        exact hKx w_t_ring _ _ _ hw (lv_sub hl [3] rfl) hf
      · have hf := (if_neg c7).symm.trans hf
        refine lv_aload_n hx hb dX7_turns_66 rfl (lv_at hl 0 rfl) ?_
        refine g_get (ci := 7) (C := RX7) (T := TX7) (N := 22) S hinX7 hK hw 0 13 k42 dX7_turns_67 rfl rfl (by decide) rfl ?_
        refine lv_iload hx hb dX7_turns_70 (lv_at hl 4 rfl) ?_
        obtain ⟨b8, hf⟩ := ck_some hf
        refine g_zald S hK hw 1 1 b8 dX7_turns_72 rfl rfl ?_
        refine lv_if_eq (tgt := 95) hx hb dX7_turns_73 (by decide) (fun c9 => ?_) (fun c9 => ?_)
        · have hf := (if_pos c9).symm.trans hf
          refine lv_aload_n hx hb dX7_turns_95 rfl (lv_at hl 0 rfl) ?_
          refine g_get (ci := 7) (C := RX7) (T := TX7) (N := 22) S hinX7 hK hw 0 13 k42 dX7_turns_96 rfl rfl (by decide) rfl ?_
          refine lv_iload hx hb dX7_turns_99 (lv_at hl 4 rfl) ?_
          obtain ⟨b10, hf⟩ := ck_some hf
          refine g_zald S hK hw 1 1 b10 dX7_turns_101 rfl rfl ?_
          refine lv_if_ne (tgt := 120) hx hb dX7_turns_102 (by decide) (fun c11 => ?_) (fun c11 => ?_)
          · have hf := (if_neg c11).symm.trans hf
            refine lv_iinc (v := (x4 + (1 : Int32))) (lv' := [(4, .int (x4 + (1 : Int32))), (0, .ref q_t), (1, .int x1), (2, .int x2), (3, .int x3)]) hx hb dX7_turns_120 hl (k := 4) rfl rfl (by decide) rfl (fun ls hl => ?_)
            refine lv_goto (tgt := 57) hx hb dX7_turns_123 (by decide) ?_
            exact ih x2 (x4 + (1 : Int32)) w_t_ring _ _ _ hw (lv_sub hl [1, 2, 3, 4, 0] rfl) hf
          · have hf := (if_pos c11).symm.trans hf
            refine lv_iload_n hx hb dX7_turns_105 rfl (lv_at hl 2 rfl) ?_
            refine lv_if_le (tgt := 120) hx hb dX7_turns_106 (by decide) (fun c12 => ?_) (fun c12 => ?_)
            · have hf := (if_pos c12).symm.trans hf
              refine lv_iinc (v := (x4 + (1 : Int32))) (lv' := [(4, .int (x4 + (1 : Int32))), (0, .ref q_t), (1, .int x1), (2, .int x2), (3, .int x3)]) hx hb dX7_turns_120 hl (k := 4) rfl rfl (by decide) rfl (fun ls hl => ?_)
              refine lv_goto (tgt := 57) hx hb dX7_turns_123 (by decide) ?_
              exact ih x2 (x4 + (1 : Int32)) w_t_ring _ _ _ hw (lv_sub hl [1, 2, 3, 4, 0] rfl) hf
            · have hf := (if_neg c12).symm.trans hf
              refine lv_aload_n hx hb dX7_turns_109 rfl (lv_at hl 0 rfl) ?_
              refine g_get (ci := 7) (C := RX7) (T := TX7) (N := 22) S hinX7 hK hw 0 13 k42 dX7_turns_110 rfl rfl (by decide) rfl ?_
              refine lv_iload hx hb dX7_turns_113 (lv_at hl 4 rfl) ?_
              refine lv_iconst (v := (1 : Int32)) hx hb dX7_turns_115 (by decide) ?_
              obtain ⟨b13, hf⟩ := ck_some hf
              refine g_zast (ws' := [(q_t, .inr (7, [.ref q_t_boxes, .ref q_t_next, .int t_done, .ref q_t_left, .ref q_t_pairs, .int t_many, .ref q_t_lengths, .ref q_t_riggings, .int t_told, .ref q_t_toldLength, .ref q_t_toldRigging, .ref q_t_toldRoom, .int t_ringN, .ref q_t_ring, .ref q_t_was, .ref q_t_saved, .ref q_t_isThere, .ref q_t_forms, .ref q_t_sizes, .ref q_t_items, .ref q_t_moved, .int t_finding])), (q_t_ring, .inl (cZ, 40, .inl (upd w_t_ring x4.toNatClampNeg (vp_nar .boolean (1 : Int32)))))]) S hK hw 1 1 b13 dX7_turns_116 rfl rfl rfl (fun H locs hw => ?_)
              refine lv_iinc (v := (x2 + (-1 : Int32))) (lv' := [(2, .int (x2 + (-1 : Int32))), (0, .ref q_t), (1, .int x1), (3, .int x3), (4, .int x4)]) hx hb dX7_turns_117 hl (k := 2) rfl rfl (by decide) rfl (fun ls hl => ?_)
              refine lv_iinc (v := (x4 + (1 : Int32))) (lv' := [(4, .int (x4 + (1 : Int32))), (2, .int (x2 + (-1 : Int32))), (0, .ref q_t), (1, .int x1), (3, .int x3)]) hx hb dX7_turns_120 hl (k := 4) rfl rfl (by decide) rfl (fun ls hl => ?_)
              refine lv_goto (tgt := 57) hx hb dX7_turns_123 (by decide) ?_
              exact ih (x2 + (-1 : Int32)) (x4 + (1 : Int32)) (upd w_t_ring x4.toNatClampNeg (vp_nar .boolean (1 : Int32))) _ _ _ hw (lv_sub hl [2, 3, 1, 4, 0] rfl) hf
        · have hf := (if_neg c9).symm.trans hf
          refine lv_iload_n hx hb dX7_turns_76 rfl (lv_at hl 2 rfl) ?_
          refine lv_iload_n hx hb dX7_turns_77 rfl (lv_at hl 1 rfl) ?_
          refine lv_icmp_ge (tgt := 95) hx hb dX7_turns_78 (by decide) (fun c14 => ?_) (fun c14 => ?_)
          · have hf := (if_pos c14).symm.trans hf
            refine lv_aload_n hx hb dX7_turns_95 rfl (lv_at hl 0 rfl) ?_
            refine g_get (ci := 7) (C := RX7) (T := TX7) (N := 22) S hinX7 hK hw 0 13 k42 dX7_turns_96 rfl rfl (by decide) rfl ?_
            refine lv_iload hx hb dX7_turns_99 (lv_at hl 4 rfl) ?_
            obtain ⟨b15, hf⟩ := ck_some hf
            refine g_zald S hK hw 1 1 b15 dX7_turns_101 rfl rfl ?_
            refine lv_if_ne (tgt := 120) hx hb dX7_turns_102 (by decide) (fun c16 => ?_) (fun c16 => ?_)
            · have hf := (if_neg c16).symm.trans hf
              refine lv_iinc (v := (x4 + (1 : Int32))) (lv' := [(4, .int (x4 + (1 : Int32))), (0, .ref q_t), (1, .int x1), (2, .int x2), (3, .int x3)]) hx hb dX7_turns_120 hl (k := 4) rfl rfl (by decide) rfl (fun ls hl => ?_)
              refine lv_goto (tgt := 57) hx hb dX7_turns_123 (by decide) ?_
              exact ih x2 (x4 + (1 : Int32)) w_t_ring _ _ _ hw (lv_sub hl [1, 2, 3, 4, 0] rfl) hf
            · have hf := (if_pos c16).symm.trans hf
              refine lv_iload_n hx hb dX7_turns_105 rfl (lv_at hl 2 rfl) ?_
              refine lv_if_le (tgt := 120) hx hb dX7_turns_106 (by decide) (fun c17 => ?_) (fun c17 => ?_)
              · have hf := (if_pos c17).symm.trans hf
                refine lv_iinc (v := (x4 + (1 : Int32))) (lv' := [(4, .int (x4 + (1 : Int32))), (0, .ref q_t), (1, .int x1), (2, .int x2), (3, .int x3)]) hx hb dX7_turns_120 hl (k := 4) rfl rfl (by decide) rfl (fun ls hl => ?_)
                refine lv_goto (tgt := 57) hx hb dX7_turns_123 (by decide) ?_
                exact ih x2 (x4 + (1 : Int32)) w_t_ring _ _ _ hw (lv_sub hl [1, 2, 3, 4, 0] rfl) hf
              · have hf := (if_neg c17).symm.trans hf
                refine lv_aload_n hx hb dX7_turns_109 rfl (lv_at hl 0 rfl) ?_
                refine g_get (ci := 7) (C := RX7) (T := TX7) (N := 22) S hinX7 hK hw 0 13 k42 dX7_turns_110 rfl rfl (by decide) rfl ?_
                refine lv_iload hx hb dX7_turns_113 (lv_at hl 4 rfl) ?_
                refine lv_iconst (v := (1 : Int32)) hx hb dX7_turns_115 (by decide) ?_
                obtain ⟨b18, hf⟩ := ck_some hf
                refine g_zast (ws' := [(q_t, .inr (7, [.ref q_t_boxes, .ref q_t_next, .int t_done, .ref q_t_left, .ref q_t_pairs, .int t_many, .ref q_t_lengths, .ref q_t_riggings, .int t_told, .ref q_t_toldLength, .ref q_t_toldRigging, .ref q_t_toldRoom, .int t_ringN, .ref q_t_ring, .ref q_t_was, .ref q_t_saved, .ref q_t_isThere, .ref q_t_forms, .ref q_t_sizes, .ref q_t_items, .ref q_t_moved, .int t_finding])), (q_t_ring, .inl (cZ, 40, .inl (upd w_t_ring x4.toNatClampNeg (vp_nar .boolean (1 : Int32)))))]) S hK hw 1 1 b18 dX7_turns_116 rfl rfl rfl (fun H locs hw => ?_)
                refine lv_iinc (v := (x2 + (-1 : Int32))) (lv' := [(2, .int (x2 + (-1 : Int32))), (0, .ref q_t), (1, .int x1), (3, .int x3), (4, .int x4)]) hx hb dX7_turns_117 hl (k := 2) rfl rfl (by decide) rfl (fun ls hl => ?_)
                refine lv_iinc (v := (x4 + (1 : Int32))) (lv' := [(4, .int (x4 + (1 : Int32))), (2, .int (x2 + (-1 : Int32))), (0, .ref q_t), (1, .int x1), (3, .int x3)]) hx hb dX7_turns_120 hl (k := 4) rfl rfl (by decide) rfl (fun ls hl => ?_)
                refine lv_goto (tgt := 57) hx hb dX7_turns_123 (by decide) ?_
                exact ih (x2 + (-1 : Int32)) (x4 + (1 : Int32)) (upd w_t_ring x4.toNatClampNeg (vp_nar .boolean (1 : Int32))) _ _ _ hw (lv_sub hl [2, 3, 1, 4, 0] rfl) hf
          · have hf := (if_neg c14).symm.trans hf
            refine lv_aload_n hx hb dX7_turns_81 rfl (lv_at hl 0 rfl) ?_
            refine g_get (ci := 7) (C := RX7) (T := TX7) (N := 22) S hinX7 hK hw 0 13 k42 dX7_turns_82 rfl rfl (by decide) rfl ?_
            refine lv_iload hx hb dX7_turns_85 (lv_at hl 4 rfl) ?_
            refine lv_iconst (v := (0 : Int32)) hx hb dX7_turns_87 (by decide) ?_
            obtain ⟨b19, hf⟩ := ck_some hf
            refine g_zast (ws' := [(q_t, .inr (7, [.ref q_t_boxes, .ref q_t_next, .int t_done, .ref q_t_left, .ref q_t_pairs, .int t_many, .ref q_t_lengths, .ref q_t_riggings, .int t_told, .ref q_t_toldLength, .ref q_t_toldRigging, .ref q_t_toldRoom, .int t_ringN, .ref q_t_ring, .ref q_t_was, .ref q_t_saved, .ref q_t_isThere, .ref q_t_forms, .ref q_t_sizes, .ref q_t_items, .ref q_t_moved, .int t_finding])), (q_t_ring, .inl (cZ, 40, .inl (upd w_t_ring x4.toNatClampNeg (vp_nar .boolean (0 : Int32)))))]) S hK hw 1 1 b19 dX7_turns_88 rfl rfl rfl (fun H locs hw => ?_)
            refine lv_iinc (v := (x2 + (1 : Int32))) (lv' := [(2, .int (x2 + (1 : Int32))), (0, .ref q_t), (1, .int x1), (3, .int x3), (4, .int x4)]) hx hb dX7_turns_89 hl (k := 2) rfl rfl (by decide) rfl (fun ls hl => ?_)
            refine lv_goto (tgt := 120) hx hb dX7_turns_92 (by decide) ?_
            refine lv_iinc (v := (x4 + (1 : Int32))) (lv' := [(4, .int (x4 + (1 : Int32))), (2, .int (x2 + (1 : Int32))), (0, .ref q_t), (1, .int x1), (3, .int x3)]) hx hb dX7_turns_120 hl (k := 4) rfl rfl (by decide) rfl (fun ls hl => ?_)
            refine lv_goto (tgt := 57) hx hb dX7_turns_123 (by decide) ?_
            exact ih (x2 + (1 : Int32)) (x4 + (1 : Int32)) (upd w_t_ring x4.toNatClampNeg (vp_nar .boolean (0 : Int32))) _ _ _ hw (lv_sub hl [2, 3, 1, 4, 0] rfl) hf
  unfold f_X7_turns at hf
  refine lv_iconst (v := (0 : Int32)) hx hb dX7_turns_0 (by decide) ?_
  refine lv_istore_n (lv' := [(2, .int (0 : Int32)), (0, .ref q_t), (1, .int p1)]) hx hb dX7_turns_1 rfl hl (by decide) rfl (fun ls hl => ?_)
  refine lv_iconst (v := (0 : Int32)) hx hb dX7_turns_2 (by decide) ?_
  refine lv_istore_n (lv' := [(3, .int (0 : Int32)), (2, .int (0 : Int32)), (0, .ref q_t), (1, .int p1)]) hx hb dX7_turns_3 rfl hl (by decide) rfl (fun ls hl => ?_)
  refine Lp4 p1 t_ring _ (fun y6 H locs ls hw hl hf => ?_) N (0 : Int32) (0 : Int32) _ _ _ hw (lv_sub hl [2, 3, 1, 0] rfl) hf
  refine lv_iload_n hx hb dX7_turns_52 rfl (lv_at hl 2 rfl) ?_
  refine lv_istore_n (lv' := [(3, .int y6), (0, .ref q_t), (1, .int p1), (2, .int y6)]) hx hb dX7_turns_53 rfl hl (by decide) rfl (fun ls hl => ?_)
  refine lv_iconst (v := (0 : Int32)) hx hb dX7_turns_54 (by decide) ?_
  refine lv_istore (lv' := [(4, .int (0 : Int32)), (3, .int y6), (0, .ref q_t), (1, .int p1), (2, .int y6)]) hx hb dX7_turns_55 hl (by decide) rfl (fun ls hl => ?_)
  refine Lp57 p1 y6 _ (fun u20 H locs ls hw hl hf => ?_) N y6 (0 : Int32) t_ring _ _ _ hw (lv_sub hl [2, 3, 4, 1, 0] rfl) hf
  refine lv_iload_n hx hb dX7_turns_126 rfl (lv_at hl 0 rfl) ?_
  obtain ⟨rfl, rfl⟩ := pr2 (Option.some.inj hf)
  exact rt_i S hr hlk hw dX7_turns_127

def f_X7_turn (N : Nat) (p1 : Int32) (t_ringN : Int32) (t_ring : (Nat → Int32)) : Option (Int32 × (Nat → Int32)) :=
  (bd1 (f_X7_in N p1 (1 : Int32) (50 : Int32)) (fun r1 => (if r1 = (0 : Int32) then (some ((-2 : Int32), t_ring)) else (bd2 (f_X7_turns N p1 t_ringN t_ring) (fun r4 u5 => (some (r4, u5)))))))

set_option maxHeartbeats 4000000 in
set_option maxRecDepth 100000 in
theorem c_X7_turn (l : Launch) (D : va_G) (cI cZ cJ cO : ClassId) (sz : Nat) (q_t q_t_boxes q_t_next q_t_left q_t_pairs q_t_lengths q_t_riggings q_t_toldLength q_t_toldRigging q_t_toldRoom q_t_ring q_t_was q_t_saved q_t_isThere q_t_forms q_t_sizes q_t_items q_t_moved : Nat) (N : Nat) (p1 : Int32) (t_done : Int32) (t_many : Int32) (t_told : Int32) (t_ringN : Int32) (t_finding : Int32) (t_ring : (Nat → Int32)) (r : Int32) (o_t_ring : (Nat → Int32)) (hf : f_X7_turn N p1 t_ringN t_ring = some (r, o_t_ring)) : Met l yX7_turn wsX7_turn ({ frames := 1, cells := 0, slots := 0, locals := 24 }) (PreC D (TY cI cZ cJ cO) [.ref q_t, .int p1] [(q_t, .inr (7, [.ref q_t_boxes, .ref q_t_next, .int t_done, .ref q_t_left, .ref q_t_pairs, .int t_many, .ref q_t_lengths, .ref q_t_riggings, .int t_told, .ref q_t_toldLength, .ref q_t_toldRigging, .ref q_t_toldRoom, .int t_ringN, .ref q_t_ring, .ref q_t_was, .ref q_t_saved, .ref q_t_isThere, .ref q_t_forms, .ref q_t_sizes, .ref q_t_items, .ref q_t_moved, .int t_finding])), (q_t_ring, .inl (cZ, 40, .inl t_ring))] sz) (QcI D [(q_t, .inr (7, [.ref q_t_boxes, .ref q_t_next, .int t_done, .ref q_t_left, .ref q_t_pairs, .int t_many, .ref q_t_lengths, .ref q_t_riggings, .int t_told, .ref q_t_toldLength, .ref q_t_toldRigging, .ref q_t_toldRoom, .int t_ringN, .ref q_t_ring, .ref q_t_was, .ref q_t_saved, .ref q_t_isThere, .ref q_t_forms, .ref q_t_sizes, .ref q_t_items, .ref q_t_moved, .int t_finding])), (q_t_ring, .inl (cZ, 40, .inl o_t_ring))] (va_A [(q_t, .inr (7, [.ref q_t_boxes, .ref q_t_next, .int t_done, .ref q_t_left, .ref q_t_pairs, .int t_many, .ref q_t_lengths, .ref q_t_riggings, .int t_told, .ref q_t_toldLength, .ref q_t_toldRigging, .ref q_t_toldRoom, .int t_ringN, .ref q_t_ring, .ref q_t_was, .ref q_t_saved, .ref q_t_isThere, .ref q_t_forms, .ref q_t_sizes, .ref q_t_items, .ref q_t_moved, .int t_finding])), (q_t_ring, .inl (cZ, 40, .inl t_ring))] sz) r) 0 0 (va_A [(q_t, .inr (7, [.ref q_t_boxes, .ref q_t_next, .int t_done, .ref q_t_left, .ref q_t_pairs, .int t_many, .ref q_t_lengths, .ref q_t_riggings, .int t_told, .ref q_t_toldLength, .ref q_t_toldRigging, .ref q_t_toldRoom, .int t_ringN, .ref q_t_ring, .ref q_t_was, .ref q_t_saved, .ref q_t_isThere, .ref q_t_forms, .ref q_t_sizes, .ref q_t_items, .ref q_t_moved, .int t_finding])), (q_t_ring, .inl (cZ, 40, .inl t_ring))] sz) := by
  refine ctr (cc := cX7_turn) (maxL := 2) (ret := (some .int)) (by decide) rfl (Nat.le_of_ble_eq_true rfl) ?_
  intro p e s m below meth c S hr hlk hnm hK hN hsz hA hw ls hl
  generalize va_A [(q_t, .inr (7, [.ref q_t_boxes, .ref q_t_next, .int t_done, .ref q_t_left, .ref q_t_pairs, .int t_many, .ref q_t_lengths, .ref q_t_riggings, .int t_told, .ref q_t_toldLength, .ref q_t_toldRigging, .ref q_t_toldRoom, .int t_ringN, .ref q_t_ring, .ref q_t_was, .ref q_t_saved, .ref q_t_isThere, .ref q_t_forms, .ref q_t_sizes, .ref q_t_items, .ref q_t_moved, .int t_finding])), (q_t_ring, .inl (cZ, 40, .inl t_ring))] sz = A at hA hw ⊢
  have S : CallFix p m c cX7_turn 2 s ([.ref q_t, .int p1] : List Value).toArray wsX7_turn RX7 := S
  have hx := S.1
  have hb := S.2.1
  have hts := S.2.2.2.2
  have hl : lv_has ls 2 [(0, .ref q_t), (1, .int p1)] := hl
  unfold f_X7_turn at hf
  refine lv_iload_n hx hb dX7_turn_0 rfl (lv_at hl 1 rfl) ?_
  refine lv_iconst (v := (1 : Int32)) hx hb dX7_turn_1 (by decide) ?_
  refine lv_bipush (v := (50 : Int32)) hx hb dX7_turn_2 (by decide) ?_
  obtain ⟨r1, h2, hf⟩ := bd1_some hf
  refine cl_i (wr := [(q_t, .inr (7, [.ref q_t_boxes, .ref q_t_next, .int t_done, .ref q_t_left, .ref q_t_pairs, .int t_many, .ref q_t_lengths, .ref q_t_riggings, .int t_told, .ref q_t_toldLength, .ref q_t_toldRigging, .ref q_t_toldRoom, .int t_ringN, .ref q_t_ring, .ref q_t_was, .ref q_t_saved, .ref q_t_isThere, .ref q_t_forms, .ref q_t_sizes, .ref q_t_items, .ref q_t_moved, .int t_finding])), (q_t_ring, .inl (cZ, 40, .inl t_ring))]) (ws' := [(q_t, .inr (7, [.ref q_t_boxes, .ref q_t_next, .int t_done, .ref q_t_left, .ref q_t_pairs, .int t_many, .ref q_t_lengths, .ref q_t_riggings, .int t_told, .ref q_t_toldLength, .ref q_t_toldRigging, .ref q_t_toldRoom, .int t_ringN, .ref q_t_ring, .ref q_t_was, .ref q_t_saved, .ref q_t_isThere, .ref q_t_forms, .ref q_t_sizes, .ref q_t_items, .ref q_t_moved, .int t_finding])), (q_t_ring, .inl (cZ, 40, .inl t_ring))]) hA hw [] [0, 1] [0, 1] rfl rfl rfl (by decide) rfl rfl (va_runS (As := [.int p1, .int (1 : Int32), .int (50 : Int32)]) (rest := []) S (c_X7_in l D cI cZ cJ cO _ N p1 (1 : Int32) (50 : Int32) r1 h2) (va_cwS 3 hts gX7_turn_X7_in rfl rfl rfl (by decide +kernel) ⟨Nat.le_of_ble_eq_true rfl, Nat.le_of_ble_eq_true rfl⟩) (pre_S hK hN hw [] rfl rfl) rfl rfl hl.1 rfl (lv_room (Nat.le_of_ble_eq_true rfl)) dX7_turn_4 ⟨Nat.zero_le _, Nat.zero_le _⟩) (fun H locs hw => ?_)
  refine lv_if_eq (tgt := 18) hx hb dX7_turn_7 (by decide) (fun c3 => ?_) (fun c3 => ?_)
  · have hf := (if_pos c3).symm.trans hf
    refine lv_bipush (v := (-2 : Int32)) hx hb dX7_turn_18 (by decide) ?_
    obtain ⟨rfl, rfl⟩ := pr2 (Option.some.inj hf)
    exact rt_i S hr hlk hw dX7_turn_20
  · have hf := (if_neg c3).symm.trans hf
    refine lv_aload_n hx hb dX7_turn_10 rfl (lv_at hl 0 rfl) ?_
    refine lv_iload_n hx hb dX7_turn_11 rfl (lv_at hl 1 rfl) ?_
    obtain ⟨r4, u5, h6, hf⟩ := bd2_some hf
    refine cl_i (wr := []) (ws' := [(q_t, .inr (7, [.ref q_t_boxes, .ref q_t_next, .int t_done, .ref q_t_left, .ref q_t_pairs, .int t_many, .ref q_t_lengths, .ref q_t_riggings, .int t_told, .ref q_t_toldLength, .ref q_t_toldRigging, .ref q_t_toldRoom, .int t_ringN, .ref q_t_ring, .ref q_t_was, .ref q_t_saved, .ref q_t_isThere, .ref q_t_forms, .ref q_t_sizes, .ref q_t_items, .ref q_t_moved, .int t_finding])), (q_t_ring, .inl (cZ, 40, .inl u5))]) hA hw [0, 1] [] [0, 1] rfl rfl rfl (by decide) rfl rfl (va_runV (As := [.int p1]) (rest := []) S (c_X7_turns l D cI cZ cJ cO _ q_t q_t_boxes q_t_next q_t_left q_t_pairs q_t_lengths q_t_riggings q_t_toldLength q_t_toldRigging q_t_toldRoom q_t_ring q_t_was q_t_saved q_t_isThere q_t_forms q_t_sizes q_t_items q_t_moved N p1 t_done t_many t_told t_ringN t_finding t_ring r4 u5 h6) (cwV 1 hts gX7_turn_X7_turns rfl rfl rfl (by decide +kernel) ⟨Nat.le_of_ble_eq_true rfl, Nat.le_of_ble_eq_true rfl⟩) (pre_V hK hN hw [0, 1] rfl rfl (C := RX7) (T := TX7) (N := 22) (ci := 7) (q0 := 0) rfl rfl) rfl rfl hl.1 rfl (lv_room (Nat.le_of_ble_eq_true rfl)) dX7_turn_12 ⟨Nat.zero_le _, Nat.zero_le _⟩) (fun H locs hw => ?_)
    refine lv_goto (tgt := 20) hx hb dX7_turn_15 (by decide) ?_
    obtain ⟨rfl, rfl⟩ := pr2 (Option.some.inj hf)
    exact rt_i S hr hlk hw dX7_turn_20

def L_X7_isAsWas_2 (N : Nat) (t_ringN : Int32) (t_ring : (Nat → Int32)) (t_was : (Nat → Int32)) (K : Unit → Option (Int32)) : Nat → Int32 → Option (Int32)
  | 0, _ => none
  | n + 1, x1 => (if t_ringN ≤ x1 then (K ()) else (ck (inb x1 40) (ck (inb x1 40) (if (t_ring x1.toNatClampNeg) = (t_was x1.toNatClampNeg) then (L_X7_isAsWas_2 N t_ringN t_ring t_was K n (x1 + (1 : Int32))) else (some (0 : Int32))))))

def f_X7_isAsWas (N : Nat)  (t_ringN : Int32) (t_ring : (Nat → Int32)) (t_was : (Nat → Int32)) : Option (Int32) :=
  (L_X7_isAsWas_2 N t_ringN t_ring t_was (fun _ => (some (1 : Int32))) N (0 : Int32))

set_option maxHeartbeats 4000000 in
set_option maxRecDepth 100000 in
theorem c_X7_isAsWas (l : Launch) (D : va_G) (cI cZ cJ cO : ClassId) (sz : Nat) (q_t q_t_boxes q_t_next q_t_left q_t_pairs q_t_lengths q_t_riggings q_t_toldLength q_t_toldRigging q_t_toldRoom q_t_ring q_t_was q_t_saved q_t_isThere q_t_forms q_t_sizes q_t_items q_t_moved : Nat) (N : Nat)  (t_done : Int32) (t_many : Int32) (t_told : Int32) (t_ringN : Int32) (t_finding : Int32) (t_ring : (Nat → Int32)) (t_was : (Nat → Int32)) (r : Int32) (hf : f_X7_isAsWas N t_ringN t_ring t_was = some r) : Met l yX7_isAsWas wsX7_isAsWas ({ frames := 0, cells := 0, slots := 0, locals := 0 }) (PreC D (TY cI cZ cJ cO) [.ref q_t] [(q_t, .inr (7, [.ref q_t_boxes, .ref q_t_next, .int t_done, .ref q_t_left, .ref q_t_pairs, .int t_many, .ref q_t_lengths, .ref q_t_riggings, .int t_told, .ref q_t_toldLength, .ref q_t_toldRigging, .ref q_t_toldRoom, .int t_ringN, .ref q_t_ring, .ref q_t_was, .ref q_t_saved, .ref q_t_isThere, .ref q_t_forms, .ref q_t_sizes, .ref q_t_items, .ref q_t_moved, .int t_finding])), (q_t_ring, .inl (cZ, 40, .inl t_ring)), (q_t_was, .inl (cZ, 40, .inl t_was))] sz) (QcI D [(q_t, .inr (7, [.ref q_t_boxes, .ref q_t_next, .int t_done, .ref q_t_left, .ref q_t_pairs, .int t_many, .ref q_t_lengths, .ref q_t_riggings, .int t_told, .ref q_t_toldLength, .ref q_t_toldRigging, .ref q_t_toldRoom, .int t_ringN, .ref q_t_ring, .ref q_t_was, .ref q_t_saved, .ref q_t_isThere, .ref q_t_forms, .ref q_t_sizes, .ref q_t_items, .ref q_t_moved, .int t_finding])), (q_t_ring, .inl (cZ, 40, .inl t_ring)), (q_t_was, .inl (cZ, 40, .inl t_was))] (va_A [(q_t, .inr (7, [.ref q_t_boxes, .ref q_t_next, .int t_done, .ref q_t_left, .ref q_t_pairs, .int t_many, .ref q_t_lengths, .ref q_t_riggings, .int t_told, .ref q_t_toldLength, .ref q_t_toldRigging, .ref q_t_toldRoom, .int t_ringN, .ref q_t_ring, .ref q_t_was, .ref q_t_saved, .ref q_t_isThere, .ref q_t_forms, .ref q_t_sizes, .ref q_t_items, .ref q_t_moved, .int t_finding])), (q_t_ring, .inl (cZ, 40, .inl t_ring)), (q_t_was, .inl (cZ, 40, .inl t_was))] sz) r) 0 0 (va_A [(q_t, .inr (7, [.ref q_t_boxes, .ref q_t_next, .int t_done, .ref q_t_left, .ref q_t_pairs, .int t_many, .ref q_t_lengths, .ref q_t_riggings, .int t_told, .ref q_t_toldLength, .ref q_t_toldRigging, .ref q_t_toldRoom, .int t_ringN, .ref q_t_ring, .ref q_t_was, .ref q_t_saved, .ref q_t_isThere, .ref q_t_forms, .ref q_t_sizes, .ref q_t_items, .ref q_t_moved, .int t_finding])), (q_t_ring, .inl (cZ, 40, .inl t_ring)), (q_t_was, .inl (cZ, 40, .inl t_was))] sz) := by
  refine ctr (cc := cX7_isAsWas) (maxL := 2) (ret := (some .boolean)) (by decide) rfl (Nat.le_of_ble_eq_true rfl) ?_
  intro p e s m below meth c S hr hlk hnm hK hN hsz hA hw ls hl
  generalize va_A [(q_t, .inr (7, [.ref q_t_boxes, .ref q_t_next, .int t_done, .ref q_t_left, .ref q_t_pairs, .int t_many, .ref q_t_lengths, .ref q_t_riggings, .int t_told, .ref q_t_toldLength, .ref q_t_toldRigging, .ref q_t_toldRoom, .int t_ringN, .ref q_t_ring, .ref q_t_was, .ref q_t_saved, .ref q_t_isThere, .ref q_t_forms, .ref q_t_sizes, .ref q_t_items, .ref q_t_moved, .int t_finding])), (q_t_ring, .inl (cZ, 40, .inl t_ring)), (q_t_was, .inl (cZ, 40, .inl t_was))] sz = A at hA hw ⊢
  have S : CallFix p m c cX7_isAsWas 2 s ([.ref q_t] : List Value).toArray wsX7_isAsWas RX7 := S
  have hx := S.1
  have hb := S.2.1
  have hts := S.2.2.2.2
  have hl : lv_has ls 2 [(0, .ref q_t)] := hl
  have hinX7 : ∀ w ∈ u_ws RX7 TX7 22, w ∈ wsX7_isAsWas := by decide +kernel
  have k38 : Cond.fieldLink RX7 38 "BallBoxesModel" "ringN" "I" ∈ wsX7_isAsWas := by decide +kernel
  have k42 : Cond.fieldLink RX7 42 "BallBoxesModel" "ring" "[Z" ∈ wsX7_isAsWas := by decide +kernel
  have k45 : Cond.fieldLink RX7 45 "BallBoxesModel" "was" "[Z" ∈ wsX7_isAsWas := by decide +kernel
  have Lp2 : ∀  (K : Unit → Option (Int32)), (∀  (H : Heap) (locs : List Loc) (ls : Array Slot), Wd D A s.heap [(q_t, .inr (7, [.ref q_t_boxes, .ref q_t_next, .int t_done, .ref q_t_left, .ref q_t_pairs, .int t_many, .ref q_t_lengths, .ref q_t_riggings, .int t_told, .ref q_t_toldLength, .ref q_t_toldRigging, .ref q_t_toldRoom, .int t_ringN, .ref q_t_ring, .ref q_t_was, .ref q_t_saved, .ref q_t_isThere, .ref q_t_forms, .ref q_t_sizes, .ref q_t_items, .ref q_t_moved, .int t_finding])), (q_t_ring, .inl (cZ, 40, .inl t_ring)), (q_t_was, .inl (cZ, 40, .inl t_was))] H locs → lv_has ls 2 [] → K () = some r → W p l e ({ frames := 0, cells := 0, slots := 0, locals := 0 } : Room) s m ([.ref q_t] : List Value).toArray below meth c H locs 0 0 (MQ below (QcI D [(q_t, .inr (7, [.ref q_t_boxes, .ref q_t_next, .int t_done, .ref q_t_left, .ref q_t_pairs, .int t_many, .ref q_t_lengths, .ref q_t_riggings, .int t_told, .ref q_t_toldLength, .ref q_t_toldRigging, .ref q_t_toldRoom, .int t_ringN, .ref q_t_ring, .ref q_t_was, .ref q_t_saved, .ref q_t_isThere, .ref q_t_forms, .ref q_t_sizes, .ref q_t_items, .ref q_t_moved, .int t_finding])), (q_t_ring, .inl (cZ, 40, .inl t_ring)), (q_t_was, .inl (cZ, 40, .inl t_was))] A r) ([.ref q_t] : List Value).toArray s 0 0 A) (F0 m 33 ls [])) → ∀ (n : Nat) (x1 : Int32) (H : Heap) (locs : List Loc) (ls : Array Slot), Wd D A s.heap [(q_t, .inr (7, [.ref q_t_boxes, .ref q_t_next, .int t_done, .ref q_t_left, .ref q_t_pairs, .int t_many, .ref q_t_lengths, .ref q_t_riggings, .int t_told, .ref q_t_toldLength, .ref q_t_toldRigging, .ref q_t_toldRoom, .int t_ringN, .ref q_t_ring, .ref q_t_was, .ref q_t_saved, .ref q_t_isThere, .ref q_t_forms, .ref q_t_sizes, .ref q_t_items, .ref q_t_moved, .int t_finding])), (q_t_ring, .inl (cZ, 40, .inl t_ring)), (q_t_was, .inl (cZ, 40, .inl t_was))] H locs → lv_has ls 2 [(0, .ref q_t), (1, .int x1)] → L_X7_isAsWas_2 N t_ringN t_ring t_was K n x1 = some r → W p l e ({ frames := 0, cells := 0, slots := 0, locals := 0 } : Room) s m ([.ref q_t] : List Value).toArray below meth c H locs 0 0 (MQ below (QcI D [(q_t, .inr (7, [.ref q_t_boxes, .ref q_t_next, .int t_done, .ref q_t_left, .ref q_t_pairs, .int t_many, .ref q_t_lengths, .ref q_t_riggings, .int t_told, .ref q_t_toldLength, .ref q_t_toldRigging, .ref q_t_toldRoom, .int t_ringN, .ref q_t_ring, .ref q_t_was, .ref q_t_saved, .ref q_t_isThere, .ref q_t_forms, .ref q_t_sizes, .ref q_t_items, .ref q_t_moved, .int t_finding])), (q_t_ring, .inl (cZ, 40, .inl t_ring)), (q_t_was, .inl (cZ, 40, .inl t_was))] A r) ([.ref q_t] : List Value).toArray s 0 0 A) (F0 m 2 ls []) := by
    intro  K hKx n
    induction n with
    | zero =>
      intro x1 H locs ls hw hl hf
      rw [L_X7_isAsWas_2] at hf
      cases hf
    | succ n ih =>
      intro x1 H locs ls hw hl hf
      rw [L_X7_isAsWas_2] at hf
      refine lv_iload_n hx hb dX7_isAsWas_2 rfl (lv_at hl 1 rfl) ?_
      refine lv_aload_n hx hb dX7_isAsWas_3 rfl (lv_at hl 0 rfl) ?_
      refine g_get (ci := 7) (C := RX7) (T := TX7) (N := 22) S hinX7 hK hw 0 12 k38 dX7_isAsWas_4 rfl rfl (by decide) rfl ?_
      refine lv_icmp_ge (tgt := 33) hx hb dX7_isAsWas_7 (by decide) (fun c1 => ?_) (fun c1 => ?_)
      · have hf := (if_pos c1).symm.trans hf
        exact hKx  _ _ _ hw (lv_sub hl [] rfl) hf
      · have hf := (if_neg c1).symm.trans hf
        refine lv_aload_n hx hb dX7_isAsWas_10 rfl (lv_at hl 0 rfl) ?_
        refine g_get (ci := 7) (C := RX7) (T := TX7) (N := 22) S hinX7 hK hw 0 13 k42 dX7_isAsWas_11 rfl rfl (by decide) rfl ?_
        refine lv_iload_n hx hb dX7_isAsWas_14 rfl (lv_at hl 1 rfl) ?_
        obtain ⟨b2, hf⟩ := ck_some hf
        refine g_zald S hK hw 1 1 b2 dX7_isAsWas_15 rfl rfl ?_
        refine lv_aload_n hx hb dX7_isAsWas_16 rfl (lv_at hl 0 rfl) ?_
        refine g_get (ci := 7) (C := RX7) (T := TX7) (N := 22) S hinX7 hK hw 0 14 k45 dX7_isAsWas_17 rfl rfl (by decide) rfl ?_
        refine lv_iload_n hx hb dX7_isAsWas_20 rfl (lv_at hl 1 rfl) ?_
        obtain ⟨b3, hf⟩ := ck_some hf
        refine g_zald S hK hw 2 1 b3 dX7_isAsWas_21 rfl rfl ?_
        refine lv_icmp_eq (tgt := 27) hx hb dX7_isAsWas_22 (by decide) (fun c4 => ?_) (fun c4 => ?_)
        · have hf := (if_pos c4).symm.trans hf
          refine lv_iinc (v := (x1 + (1 : Int32))) (lv' := [(1, .int (x1 + (1 : Int32))), (0, .ref q_t)]) hx hb dX7_isAsWas_27 hl (k := 1) rfl rfl (by decide) rfl (fun ls hl => ?_)
          refine lv_goto (tgt := 2) hx hb dX7_isAsWas_30 (by decide) ?_
          exact ih (x1 + (1 : Int32)) _ _ _ hw (lv_sub hl [1, 0] rfl) hf
        · have hf := (if_neg c4).symm.trans hf
          refine lv_iconst (v := (0 : Int32)) hx hb dX7_isAsWas_25 (by decide) ?_
          obtain rfl := Option.some.inj hf
          exact rt_z S hr hlk hw dX7_isAsWas_26 rfl
  unfold f_X7_isAsWas at hf
  refine lv_iconst (v := (0 : Int32)) hx hb dX7_isAsWas_0 (by decide) ?_
  refine lv_istore_n (lv' := [(1, .int (0 : Int32)), (0, .ref q_t)]) hx hb dX7_isAsWas_1 rfl hl (by decide) rfl (fun ls hl => ?_)
  refine Lp2  _ (fun  H locs ls hw hl hf => ?_) N (0 : Int32) _ _ _ hw (lv_sub hl [1, 0] rfl) hf
  refine lv_iconst (v := (1 : Int32)) hx hb dX7_isAsWas_33 (by decide) ?_
  obtain rfl := Option.some.inj hf
  exact rt_z S hr hlk hw dX7_isAsWas_34 rfl

def L_X7_periodOf_2 (N : Nat) (t_ringN : Int32) (w_t_ring : (Nat → Int32)) (K : (Nat → Int32) → Option (Int32 × (Nat → Int32) × (Nat → Int32))) : Nat → Int32 → (Nat → Int32) → Option (Int32 × (Nat → Int32) × (Nat → Int32))
  | 0, _, _ => none
  | n + 1, x2, w_t_was => (if t_ringN ≤ x2 then (K w_t_was) else (ck (inb x2 40) (ck (inb x2 40) (L_X7_periodOf_2 N t_ringN w_t_ring K n (x2 + (1 : Int32)) (upd w_t_was x2.toNatClampNeg (vp_nar .boolean (w_t_ring x2.toNatClampNeg)))))))

def L_X7_periodOf_30 (N : Nat) (x1 : Int32) (t_ringN : Int32) (w_t_was : (Nat → Int32)) (K : (Nat → Int32) → Option (Int32 × (Nat → Int32) × (Nat → Int32))) : Nat → Int32 → (Nat → Int32) → Option (Int32 × (Nat → Int32) × (Nat → Int32))
  | 0, _, _ => none
  | n + 1, x2, w_t_ring => (if (20000 : Int32) < x2 then (K w_t_ring) else (bd2 (f_X7_turns N x1 t_ringN w_t_ring) (fun r6 u7 => (bd1 (f_X7_isAsWas N t_ringN u7 w_t_was) (fun r9 => (if r9 = (0 : Int32) then (L_X7_periodOf_30 N x1 t_ringN w_t_was K n (x2 + (1 : Int32)) u7) else (some (x2, u7, w_t_was))))))))

def L_X7_periodOf_60 (N : Nat) (t_ringN : Int32) (w_t_was : (Nat → Int32)) (K : (Nat → Int32) → Option (Int32 × (Nat → Int32) × (Nat → Int32))) : Nat → Int32 → (Nat → Int32) → Option (Int32 × (Nat → Int32) × (Nat → Int32))
  | 0, _, _ => none
  | n + 1, x2, w_t_ring => (if t_ringN ≤ x2 then (K w_t_ring) else (ck (inb x2 40) (ck (inb x2 40) (L_X7_periodOf_60 N t_ringN w_t_was K n (x2 + (1 : Int32)) (upd w_t_ring x2.toNatClampNeg (vp_nar .boolean (w_t_was x2.toNatClampNeg)))))))

def f_X7_periodOf (N : Nat) (p1 : Int32) (t_ringN : Int32) (t_ring : (Nat → Int32)) (t_was : (Nat → Int32)) : Option (Int32 × (Nat → Int32) × (Nat → Int32)) :=
  (L_X7_periodOf_2 N t_ringN t_ring (fun u4 => (L_X7_periodOf_30 N p1 t_ringN u4 (fun u12 => (L_X7_periodOf_60 N t_ringN u4 (fun u16 => (some ((-5 : Int32), u16, u4))) N (0 : Int32) u12)) N (1 : Int32) t_ring)) N (0 : Int32) t_was)

set_option maxHeartbeats 4000000 in
set_option maxRecDepth 100000 in
theorem c_X7_periodOf (l : Launch) (D : va_G) (cI cZ cJ cO : ClassId) (sz : Nat) (q_t q_t_boxes q_t_next q_t_left q_t_pairs q_t_lengths q_t_riggings q_t_toldLength q_t_toldRigging q_t_toldRoom q_t_ring q_t_was q_t_saved q_t_isThere q_t_forms q_t_sizes q_t_items q_t_moved : Nat) (N : Nat) (p1 : Int32) (t_done : Int32) (t_many : Int32) (t_told : Int32) (t_ringN : Int32) (t_finding : Int32) (t_ring : (Nat → Int32)) (t_was : (Nat → Int32)) (r : Int32) (o_t_ring : (Nat → Int32)) (o_t_was : (Nat → Int32)) (hf : f_X7_periodOf N p1 t_ringN t_ring t_was = some (r, o_t_ring, o_t_was)) : Met l yX7_periodOf wsX7_periodOf ({ frames := 1, cells := 0, slots := 0, locals := 24 }) (PreC D (TY cI cZ cJ cO) [.ref q_t, .int p1] [(q_t, .inr (7, [.ref q_t_boxes, .ref q_t_next, .int t_done, .ref q_t_left, .ref q_t_pairs, .int t_many, .ref q_t_lengths, .ref q_t_riggings, .int t_told, .ref q_t_toldLength, .ref q_t_toldRigging, .ref q_t_toldRoom, .int t_ringN, .ref q_t_ring, .ref q_t_was, .ref q_t_saved, .ref q_t_isThere, .ref q_t_forms, .ref q_t_sizes, .ref q_t_items, .ref q_t_moved, .int t_finding])), (q_t_ring, .inl (cZ, 40, .inl t_ring)), (q_t_was, .inl (cZ, 40, .inl t_was))] sz) (QcI D [(q_t, .inr (7, [.ref q_t_boxes, .ref q_t_next, .int t_done, .ref q_t_left, .ref q_t_pairs, .int t_many, .ref q_t_lengths, .ref q_t_riggings, .int t_told, .ref q_t_toldLength, .ref q_t_toldRigging, .ref q_t_toldRoom, .int t_ringN, .ref q_t_ring, .ref q_t_was, .ref q_t_saved, .ref q_t_isThere, .ref q_t_forms, .ref q_t_sizes, .ref q_t_items, .ref q_t_moved, .int t_finding])), (q_t_ring, .inl (cZ, 40, .inl o_t_ring)), (q_t_was, .inl (cZ, 40, .inl o_t_was))] (va_A [(q_t, .inr (7, [.ref q_t_boxes, .ref q_t_next, .int t_done, .ref q_t_left, .ref q_t_pairs, .int t_many, .ref q_t_lengths, .ref q_t_riggings, .int t_told, .ref q_t_toldLength, .ref q_t_toldRigging, .ref q_t_toldRoom, .int t_ringN, .ref q_t_ring, .ref q_t_was, .ref q_t_saved, .ref q_t_isThere, .ref q_t_forms, .ref q_t_sizes, .ref q_t_items, .ref q_t_moved, .int t_finding])), (q_t_ring, .inl (cZ, 40, .inl t_ring)), (q_t_was, .inl (cZ, 40, .inl t_was))] sz) r) 0 0 (va_A [(q_t, .inr (7, [.ref q_t_boxes, .ref q_t_next, .int t_done, .ref q_t_left, .ref q_t_pairs, .int t_many, .ref q_t_lengths, .ref q_t_riggings, .int t_told, .ref q_t_toldLength, .ref q_t_toldRigging, .ref q_t_toldRoom, .int t_ringN, .ref q_t_ring, .ref q_t_was, .ref q_t_saved, .ref q_t_isThere, .ref q_t_forms, .ref q_t_sizes, .ref q_t_items, .ref q_t_moved, .int t_finding])), (q_t_ring, .inl (cZ, 40, .inl t_ring)), (q_t_was, .inl (cZ, 40, .inl t_was))] sz) := by
  refine ctr (cc := cX7_periodOf) (maxL := 4) (ret := (some .int)) (by decide) rfl (Nat.le_of_ble_eq_true rfl) ?_
  intro p e s m below meth c S hr hlk hnm hK hN hsz hA hw ls hl
  generalize va_A [(q_t, .inr (7, [.ref q_t_boxes, .ref q_t_next, .int t_done, .ref q_t_left, .ref q_t_pairs, .int t_many, .ref q_t_lengths, .ref q_t_riggings, .int t_told, .ref q_t_toldLength, .ref q_t_toldRigging, .ref q_t_toldRoom, .int t_ringN, .ref q_t_ring, .ref q_t_was, .ref q_t_saved, .ref q_t_isThere, .ref q_t_forms, .ref q_t_sizes, .ref q_t_items, .ref q_t_moved, .int t_finding])), (q_t_ring, .inl (cZ, 40, .inl t_ring)), (q_t_was, .inl (cZ, 40, .inl t_was))] sz = A at hA hw ⊢
  have S : CallFix p m c cX7_periodOf 4 s ([.ref q_t, .int p1] : List Value).toArray wsX7_periodOf RX7 := S
  have hx := S.1
  have hb := S.2.1
  have hts := S.2.2.2.2
  have hl : lv_has ls 4 [(0, .ref q_t), (1, .int p1)] := hl
  have hinX7 : ∀ w ∈ u_ws RX7 TX7 22, w ∈ wsX7_periodOf := by decide +kernel
  have k38 : Cond.fieldLink RX7 38 "BallBoxesModel" "ringN" "I" ∈ wsX7_periodOf := by decide +kernel
  have k42 : Cond.fieldLink RX7 42 "BallBoxesModel" "ring" "[Z" ∈ wsX7_periodOf := by decide +kernel
  have k45 : Cond.fieldLink RX7 45 "BallBoxesModel" "was" "[Z" ∈ wsX7_periodOf := by decide +kernel
  have Lp2 : ∀ (x1 : Int32) (w_t_ring : (Nat → Int32)) (K : (Nat → Int32) → Option (Int32 × (Nat → Int32) × (Nat → Int32))), (∀ (z_t_was : (Nat → Int32)) (H : Heap) (locs : List Loc) (ls : Array Slot), Wd D A s.heap [(q_t, .inr (7, [.ref q_t_boxes, .ref q_t_next, .int t_done, .ref q_t_left, .ref q_t_pairs, .int t_many, .ref q_t_lengths, .ref q_t_riggings, .int t_told, .ref q_t_toldLength, .ref q_t_toldRigging, .ref q_t_toldRoom, .int t_ringN, .ref q_t_ring, .ref q_t_was, .ref q_t_saved, .ref q_t_isThere, .ref q_t_forms, .ref q_t_sizes, .ref q_t_items, .ref q_t_moved, .int t_finding])), (q_t_ring, .inl (cZ, 40, .inl w_t_ring)), (q_t_was, .inl (cZ, 40, .inl z_t_was))] H locs → lv_has ls 4 [(0, .ref q_t), (1, .int x1)] → K z_t_was = some (r, o_t_ring, o_t_was) → W p l e ({ frames := 1, cells := 0, slots := 0, locals := 24 } : Room) s m ([.ref q_t, .int p1] : List Value).toArray below meth c H locs 0 0 (MQ below (QcI D [(q_t, .inr (7, [.ref q_t_boxes, .ref q_t_next, .int t_done, .ref q_t_left, .ref q_t_pairs, .int t_many, .ref q_t_lengths, .ref q_t_riggings, .int t_told, .ref q_t_toldLength, .ref q_t_toldRigging, .ref q_t_toldRoom, .int t_ringN, .ref q_t_ring, .ref q_t_was, .ref q_t_saved, .ref q_t_isThere, .ref q_t_forms, .ref q_t_sizes, .ref q_t_items, .ref q_t_moved, .int t_finding])), (q_t_ring, .inl (cZ, 40, .inl o_t_ring)), (q_t_was, .inl (cZ, 40, .inl o_t_was))] A r) ([.ref q_t, .int p1] : List Value).toArray s 0 0 A) (F0 m 28 ls [])) → ∀ (n : Nat) (x2 : Int32) (w_t_was : (Nat → Int32)) (H : Heap) (locs : List Loc) (ls : Array Slot), Wd D A s.heap [(q_t, .inr (7, [.ref q_t_boxes, .ref q_t_next, .int t_done, .ref q_t_left, .ref q_t_pairs, .int t_many, .ref q_t_lengths, .ref q_t_riggings, .int t_told, .ref q_t_toldLength, .ref q_t_toldRigging, .ref q_t_toldRoom, .int t_ringN, .ref q_t_ring, .ref q_t_was, .ref q_t_saved, .ref q_t_isThere, .ref q_t_forms, .ref q_t_sizes, .ref q_t_items, .ref q_t_moved, .int t_finding])), (q_t_ring, .inl (cZ, 40, .inl w_t_ring)), (q_t_was, .inl (cZ, 40, .inl w_t_was))] H locs → lv_has ls 4 [(0, .ref q_t), (1, .int x1), (2, .int x2)] → L_X7_periodOf_2 N t_ringN w_t_ring K n x2 w_t_was = some (r, o_t_ring, o_t_was) → W p l e ({ frames := 1, cells := 0, slots := 0, locals := 24 } : Room) s m ([.ref q_t, .int p1] : List Value).toArray below meth c H locs 0 0 (MQ below (QcI D [(q_t, .inr (7, [.ref q_t_boxes, .ref q_t_next, .int t_done, .ref q_t_left, .ref q_t_pairs, .int t_many, .ref q_t_lengths, .ref q_t_riggings, .int t_told, .ref q_t_toldLength, .ref q_t_toldRigging, .ref q_t_toldRoom, .int t_ringN, .ref q_t_ring, .ref q_t_was, .ref q_t_saved, .ref q_t_isThere, .ref q_t_forms, .ref q_t_sizes, .ref q_t_items, .ref q_t_moved, .int t_finding])), (q_t_ring, .inl (cZ, 40, .inl o_t_ring)), (q_t_was, .inl (cZ, 40, .inl o_t_was))] A r) ([.ref q_t, .int p1] : List Value).toArray s 0 0 A) (F0 m 2 ls []) := by
    intro x1 w_t_ring K hKx n
    induction n with
    | zero =>
      intro x2 w_t_was H locs ls hw hl hf
      rw [L_X7_periodOf_2] at hf
      cases hf
    | succ n ih =>
      intro x2 w_t_was H locs ls hw hl hf
      rw [L_X7_periodOf_2] at hf
      refine lv_iload_n hx hb dX7_periodOf_2 rfl (lv_at hl 2 rfl) ?_
      refine lv_aload_n hx hb dX7_periodOf_3 rfl (lv_at hl 0 rfl) ?_
      refine g_get (ci := 7) (C := RX7) (T := TX7) (N := 22) S hinX7 hK hw 0 12 k38 dX7_periodOf_4 rfl rfl (by decide) rfl ?_
      refine lv_icmp_ge (tgt := 28) hx hb dX7_periodOf_7 (by decide) (fun c1 => ?_) (fun c1 => ?_)
      · have hf := (if_pos c1).symm.trans hf
        exact hKx w_t_was _ _ _ hw (lv_sub hl [0, 1] rfl) hf
      · have hf := (if_neg c1).symm.trans hf
        refine lv_aload_n hx hb dX7_periodOf_10 rfl (lv_at hl 0 rfl) ?_
        refine g_get (ci := 7) (C := RX7) (T := TX7) (N := 22) S hinX7 hK hw 0 14 k45 dX7_periodOf_11 rfl rfl (by decide) rfl ?_
        refine lv_iload_n hx hb dX7_periodOf_14 rfl (lv_at hl 2 rfl) ?_
        refine lv_aload_n hx hb dX7_periodOf_15 rfl (lv_at hl 0 rfl) ?_
        refine g_get (ci := 7) (C := RX7) (T := TX7) (N := 22) S hinX7 hK hw 0 13 k42 dX7_periodOf_16 rfl rfl (by decide) rfl ?_
        refine lv_iload_n hx hb dX7_periodOf_19 rfl (lv_at hl 2 rfl) ?_
        obtain ⟨b2, hf⟩ := ck_some hf
        refine g_zald S hK hw 1 1 b2 dX7_periodOf_20 rfl rfl ?_
        obtain ⟨b3, hf⟩ := ck_some hf
        refine g_zast (ws' := [(q_t, .inr (7, [.ref q_t_boxes, .ref q_t_next, .int t_done, .ref q_t_left, .ref q_t_pairs, .int t_many, .ref q_t_lengths, .ref q_t_riggings, .int t_told, .ref q_t_toldLength, .ref q_t_toldRigging, .ref q_t_toldRoom, .int t_ringN, .ref q_t_ring, .ref q_t_was, .ref q_t_saved, .ref q_t_isThere, .ref q_t_forms, .ref q_t_sizes, .ref q_t_items, .ref q_t_moved, .int t_finding])), (q_t_ring, .inl (cZ, 40, .inl w_t_ring)), (q_t_was, .inl (cZ, 40, .inl (upd w_t_was x2.toNatClampNeg (vp_nar .boolean (w_t_ring x2.toNatClampNeg)))))]) S hK hw 2 1 b3 dX7_periodOf_21 rfl rfl rfl (fun H locs hw => ?_)
        refine lv_iinc (v := (x2 + (1 : Int32))) (lv' := [(2, .int (x2 + (1 : Int32))), (0, .ref q_t), (1, .int x1)]) hx hb dX7_periodOf_22 hl (k := 2) rfl rfl (by decide) rfl (fun ls hl => ?_)
        refine lv_goto (tgt := 2) hx hb dX7_periodOf_25 (by decide) ?_
        exact ih (x2 + (1 : Int32)) (upd w_t_was x2.toNatClampNeg (vp_nar .boolean (w_t_ring x2.toNatClampNeg))) _ _ _ hw (lv_sub hl [1, 2, 0] rfl) hf
  have Lp30 : ∀ (x1 : Int32) (w_t_was : (Nat → Int32)) (K : (Nat → Int32) → Option (Int32 × (Nat → Int32) × (Nat → Int32))), (∀ (z_t_ring : (Nat → Int32)) (H : Heap) (locs : List Loc) (ls : Array Slot), Wd D A s.heap [(q_t, .inr (7, [.ref q_t_boxes, .ref q_t_next, .int t_done, .ref q_t_left, .ref q_t_pairs, .int t_many, .ref q_t_lengths, .ref q_t_riggings, .int t_told, .ref q_t_toldLength, .ref q_t_toldRigging, .ref q_t_toldRoom, .int t_ringN, .ref q_t_ring, .ref q_t_was, .ref q_t_saved, .ref q_t_isThere, .ref q_t_forms, .ref q_t_sizes, .ref q_t_items, .ref q_t_moved, .int t_finding])), (q_t_ring, .inl (cZ, 40, .inl z_t_ring)), (q_t_was, .inl (cZ, 40, .inl w_t_was))] H locs → lv_has ls 4 [(0, .ref q_t)] → K z_t_ring = some (r, o_t_ring, o_t_was) → W p l e ({ frames := 1, cells := 0, slots := 0, locals := 24 } : Room) s m ([.ref q_t, .int p1] : List Value).toArray below meth c H locs 0 0 (MQ below (QcI D [(q_t, .inr (7, [.ref q_t_boxes, .ref q_t_next, .int t_done, .ref q_t_left, .ref q_t_pairs, .int t_many, .ref q_t_lengths, .ref q_t_riggings, .int t_told, .ref q_t_toldLength, .ref q_t_toldRigging, .ref q_t_toldRoom, .int t_ringN, .ref q_t_ring, .ref q_t_was, .ref q_t_saved, .ref q_t_isThere, .ref q_t_forms, .ref q_t_sizes, .ref q_t_items, .ref q_t_moved, .int t_finding])), (q_t_ring, .inl (cZ, 40, .inl o_t_ring)), (q_t_was, .inl (cZ, 40, .inl o_t_was))] A r) ([.ref q_t, .int p1] : List Value).toArray s 0 0 A) (F0 m 58 ls [])) → ∀ (n : Nat) (x2 : Int32) (w_t_ring : (Nat → Int32)) (H : Heap) (locs : List Loc) (ls : Array Slot), Wd D A s.heap [(q_t, .inr (7, [.ref q_t_boxes, .ref q_t_next, .int t_done, .ref q_t_left, .ref q_t_pairs, .int t_many, .ref q_t_lengths, .ref q_t_riggings, .int t_told, .ref q_t_toldLength, .ref q_t_toldRigging, .ref q_t_toldRoom, .int t_ringN, .ref q_t_ring, .ref q_t_was, .ref q_t_saved, .ref q_t_isThere, .ref q_t_forms, .ref q_t_sizes, .ref q_t_items, .ref q_t_moved, .int t_finding])), (q_t_ring, .inl (cZ, 40, .inl w_t_ring)), (q_t_was, .inl (cZ, 40, .inl w_t_was))] H locs → lv_has ls 4 [(0, .ref q_t), (1, .int x1), (2, .int x2)] → L_X7_periodOf_30 N x1 t_ringN w_t_was K n x2 w_t_ring = some (r, o_t_ring, o_t_was) → W p l e ({ frames := 1, cells := 0, slots := 0, locals := 24 } : Room) s m ([.ref q_t, .int p1] : List Value).toArray below meth c H locs 0 0 (MQ below (QcI D [(q_t, .inr (7, [.ref q_t_boxes, .ref q_t_next, .int t_done, .ref q_t_left, .ref q_t_pairs, .int t_many, .ref q_t_lengths, .ref q_t_riggings, .int t_told, .ref q_t_toldLength, .ref q_t_toldRigging, .ref q_t_toldRoom, .int t_ringN, .ref q_t_ring, .ref q_t_was, .ref q_t_saved, .ref q_t_isThere, .ref q_t_forms, .ref q_t_sizes, .ref q_t_items, .ref q_t_moved, .int t_finding])), (q_t_ring, .inl (cZ, 40, .inl o_t_ring)), (q_t_was, .inl (cZ, 40, .inl o_t_was))] A r) ([.ref q_t, .int p1] : List Value).toArray s 0 0 A) (F0 m 30 ls []) := by
    intro x1 w_t_was K hKx n
    induction n with
    | zero =>
      intro x2 w_t_ring H locs ls hw hl hf
      rw [L_X7_periodOf_30] at hf
      cases hf
    | succ n ih =>
      intro x2 w_t_ring H locs ls hw hl hf
      rw [L_X7_periodOf_30] at hf
      refine lv_iload_n hx hb dX7_periodOf_30 rfl (lv_at hl 2 rfl) ?_
      refine lv_sipush (v := (20000 : Int32)) hx hb dX7_periodOf_31 (by decide) ?_
      refine lv_icmp_gt (tgt := 58) hx hb dX7_periodOf_34 (by decide) (fun c5 => ?_) (fun c5 => ?_)
      · have hf := (if_pos c5).symm.trans hf
        exact hKx w_t_ring _ _ _ hw (lv_sub hl [0] rfl) hf
      · have hf := (if_neg c5).symm.trans hf
        refine lv_aload_n hx hb dX7_periodOf_37 rfl (lv_at hl 0 rfl) ?_
        refine lv_iload_n hx hb dX7_periodOf_38 rfl (lv_at hl 1 rfl) ?_
        obtain ⟨r6, u7, h8, hf⟩ := bd2_some hf
        refine cl_i (wr := [(q_t_was, .inl (cZ, 40, .inl w_t_was))]) (ws' := [(q_t, .inr (7, [.ref q_t_boxes, .ref q_t_next, .int t_done, .ref q_t_left, .ref q_t_pairs, .int t_many, .ref q_t_lengths, .ref q_t_riggings, .int t_told, .ref q_t_toldLength, .ref q_t_toldRigging, .ref q_t_toldRoom, .int t_ringN, .ref q_t_ring, .ref q_t_was, .ref q_t_saved, .ref q_t_isThere, .ref q_t_forms, .ref q_t_sizes, .ref q_t_items, .ref q_t_moved, .int t_finding])), (q_t_ring, .inl (cZ, 40, .inl u7)), (q_t_was, .inl (cZ, 40, .inl w_t_was))]) hA hw [0, 1] [2] [1, 2, 0] rfl rfl rfl (by decide) rfl rfl (va_runV (As := [.int x1]) (rest := []) S (c_X7_turns l D cI cZ cJ cO _ q_t q_t_boxes q_t_next q_t_left q_t_pairs q_t_lengths q_t_riggings q_t_toldLength q_t_toldRigging q_t_toldRoom q_t_ring q_t_was q_t_saved q_t_isThere q_t_forms q_t_sizes q_t_items q_t_moved N x1 t_done t_many t_told t_ringN t_finding w_t_ring r6 u7 h8) (cwV 1 hts gX7_periodOf_X7_turns rfl rfl rfl (by decide +kernel) ⟨Nat.le_of_ble_eq_true rfl, Nat.le_of_ble_eq_true rfl⟩) (pre_V hK hN hw [0, 1] rfl rfl (C := RX7) (T := TX7) (N := 22) (ci := 7) (q0 := 0) rfl rfl) rfl rfl hl.1 rfl (lv_room (Nat.le_of_ble_eq_true rfl)) dX7_periodOf_39 ⟨Nat.zero_le _, Nat.zero_le _⟩) (fun H locs hw => ?_)
        refine lv_istore_n (lv' := [(3, .int r6), (0, .ref q_t), (1, .int x1), (2, .int x2)]) hx hb dX7_periodOf_42 rfl hl (by decide) rfl (fun ls hl => ?_)
        refine lv_aload_n hx hb dX7_periodOf_43 rfl (lv_at hl 1 rfl) ?_
        obtain ⟨r9, h10, hf⟩ := bd1_some hf
        refine cl_i (wr := []) (ws' := [(q_t, .inr (7, [.ref q_t_boxes, .ref q_t_next, .int t_done, .ref q_t_left, .ref q_t_pairs, .int t_many, .ref q_t_lengths, .ref q_t_riggings, .int t_told, .ref q_t_toldLength, .ref q_t_toldRigging, .ref q_t_toldRoom, .int t_ringN, .ref q_t_ring, .ref q_t_was, .ref q_t_saved, .ref q_t_isThere, .ref q_t_forms, .ref q_t_sizes, .ref q_t_items, .ref q_t_moved, .int t_finding])), (q_t_ring, .inl (cZ, 40, .inl u7)), (q_t_was, .inl (cZ, 40, .inl w_t_was))]) hA hw [0, 1, 2] [] [0, 1, 2] rfl rfl rfl (by decide) rfl rfl (va_runV (As := []) (rest := []) S (c_X7_isAsWas l D cI cZ cJ cO _ q_t q_t_boxes q_t_next q_t_left q_t_pairs q_t_lengths q_t_riggings q_t_toldLength q_t_toldRigging q_t_toldRoom q_t_ring q_t_was q_t_saved q_t_isThere q_t_forms q_t_sizes q_t_items q_t_moved N t_done t_many t_told t_ringN t_finding u7 w_t_was r9 h10) (cwV 0 hts gX7_periodOf_X7_isAsWas rfl rfl rfl (by decide +kernel) ⟨Nat.le_of_ble_eq_true rfl, Nat.le_of_ble_eq_true rfl⟩) (pre_V hK hN hw [0, 1, 2] rfl rfl (C := RX7) (T := TX7) (N := 22) (ci := 7) (q0 := 0) rfl rfl) rfl rfl hl.1 rfl (lv_room (Nat.le_of_ble_eq_true rfl)) dX7_periodOf_44 ⟨Nat.zero_le _, Nat.zero_le _⟩) (fun H locs hw => ?_)
        refine lv_if_eq (tgt := 52) hx hb dX7_periodOf_47 (by decide) (fun c11 => ?_) (fun c11 => ?_)
        · have hf := (if_pos c11).symm.trans hf
          refine lv_iinc (v := (x2 + (1 : Int32))) (lv' := [(2, .int (x2 + (1 : Int32))), (3, .int r6), (0, .ref q_t), (1, .int x1)]) hx hb dX7_periodOf_52 hl (k := 3) rfl rfl (by decide) rfl (fun ls hl => ?_)
          refine lv_goto (tgt := 30) hx hb dX7_periodOf_55 (by decide) ?_
          exact ih (x2 + (1 : Int32)) u7 _ _ _ hw (lv_sub hl [2, 3, 0] rfl) hf
        · have hf := (if_neg c11).symm.trans hf
          refine lv_iload_n hx hb dX7_periodOf_50 rfl (lv_at hl 3 rfl) ?_
          obtain ⟨rfl, rfl, rfl⟩ := pr3 (Option.some.inj hf)
          exact rt_i S hr hlk hw dX7_periodOf_51
  have Lp60 : ∀ (w_t_was : (Nat → Int32)) (K : (Nat → Int32) → Option (Int32 × (Nat → Int32) × (Nat → Int32))), (∀ (z_t_ring : (Nat → Int32)) (H : Heap) (locs : List Loc) (ls : Array Slot), Wd D A s.heap [(q_t, .inr (7, [.ref q_t_boxes, .ref q_t_next, .int t_done, .ref q_t_left, .ref q_t_pairs, .int t_many, .ref q_t_lengths, .ref q_t_riggings, .int t_told, .ref q_t_toldLength, .ref q_t_toldRigging, .ref q_t_toldRoom, .int t_ringN, .ref q_t_ring, .ref q_t_was, .ref q_t_saved, .ref q_t_isThere, .ref q_t_forms, .ref q_t_sizes, .ref q_t_items, .ref q_t_moved, .int t_finding])), (q_t_ring, .inl (cZ, 40, .inl z_t_ring)), (q_t_was, .inl (cZ, 40, .inl w_t_was))] H locs → lv_has ls 4 [] → K z_t_ring = some (r, o_t_ring, o_t_was) → W p l e ({ frames := 1, cells := 0, slots := 0, locals := 24 } : Room) s m ([.ref q_t, .int p1] : List Value).toArray below meth c H locs 0 0 (MQ below (QcI D [(q_t, .inr (7, [.ref q_t_boxes, .ref q_t_next, .int t_done, .ref q_t_left, .ref q_t_pairs, .int t_many, .ref q_t_lengths, .ref q_t_riggings, .int t_told, .ref q_t_toldLength, .ref q_t_toldRigging, .ref q_t_toldRoom, .int t_ringN, .ref q_t_ring, .ref q_t_was, .ref q_t_saved, .ref q_t_isThere, .ref q_t_forms, .ref q_t_sizes, .ref q_t_items, .ref q_t_moved, .int t_finding])), (q_t_ring, .inl (cZ, 40, .inl o_t_ring)), (q_t_was, .inl (cZ, 40, .inl o_t_was))] A r) ([.ref q_t, .int p1] : List Value).toArray s 0 0 A) (F0 m 86 ls [])) → ∀ (n : Nat) (x2 : Int32) (w_t_ring : (Nat → Int32)) (H : Heap) (locs : List Loc) (ls : Array Slot), Wd D A s.heap [(q_t, .inr (7, [.ref q_t_boxes, .ref q_t_next, .int t_done, .ref q_t_left, .ref q_t_pairs, .int t_many, .ref q_t_lengths, .ref q_t_riggings, .int t_told, .ref q_t_toldLength, .ref q_t_toldRigging, .ref q_t_toldRoom, .int t_ringN, .ref q_t_ring, .ref q_t_was, .ref q_t_saved, .ref q_t_isThere, .ref q_t_forms, .ref q_t_sizes, .ref q_t_items, .ref q_t_moved, .int t_finding])), (q_t_ring, .inl (cZ, 40, .inl w_t_ring)), (q_t_was, .inl (cZ, 40, .inl w_t_was))] H locs → lv_has ls 4 [(0, .ref q_t), (2, .int x2)] → L_X7_periodOf_60 N t_ringN w_t_was K n x2 w_t_ring = some (r, o_t_ring, o_t_was) → W p l e ({ frames := 1, cells := 0, slots := 0, locals := 24 } : Room) s m ([.ref q_t, .int p1] : List Value).toArray below meth c H locs 0 0 (MQ below (QcI D [(q_t, .inr (7, [.ref q_t_boxes, .ref q_t_next, .int t_done, .ref q_t_left, .ref q_t_pairs, .int t_many, .ref q_t_lengths, .ref q_t_riggings, .int t_told, .ref q_t_toldLength, .ref q_t_toldRigging, .ref q_t_toldRoom, .int t_ringN, .ref q_t_ring, .ref q_t_was, .ref q_t_saved, .ref q_t_isThere, .ref q_t_forms, .ref q_t_sizes, .ref q_t_items, .ref q_t_moved, .int t_finding])), (q_t_ring, .inl (cZ, 40, .inl o_t_ring)), (q_t_was, .inl (cZ, 40, .inl o_t_was))] A r) ([.ref q_t, .int p1] : List Value).toArray s 0 0 A) (F0 m 60 ls []) := by
    intro w_t_was K hKx n
    induction n with
    | zero =>
      intro x2 w_t_ring H locs ls hw hl hf
      rw [L_X7_periodOf_60] at hf
      cases hf
    | succ n ih =>
      intro x2 w_t_ring H locs ls hw hl hf
      rw [L_X7_periodOf_60] at hf
      refine lv_iload_n hx hb dX7_periodOf_60 rfl (lv_at hl 1 rfl) ?_
      refine lv_aload_n hx hb dX7_periodOf_61 rfl (lv_at hl 0 rfl) ?_
      refine g_get (ci := 7) (C := RX7) (T := TX7) (N := 22) S hinX7 hK hw 0 12 k38 dX7_periodOf_62 rfl rfl (by decide) rfl ?_
      refine lv_icmp_ge (tgt := 86) hx hb dX7_periodOf_65 (by decide) (fun c13 => ?_) (fun c13 => ?_)
      · have hf := (if_pos c13).symm.trans hf
        exact hKx w_t_ring _ _ _ hw (lv_sub hl [] rfl) hf
      · have hf := (if_neg c13).symm.trans hf
        refine lv_aload_n hx hb dX7_periodOf_68 rfl (lv_at hl 0 rfl) ?_
        refine g_get (ci := 7) (C := RX7) (T := TX7) (N := 22) S hinX7 hK hw 0 13 k42 dX7_periodOf_69 rfl rfl (by decide) rfl ?_
        refine lv_iload_n hx hb dX7_periodOf_72 rfl (lv_at hl 1 rfl) ?_
        refine lv_aload_n hx hb dX7_periodOf_73 rfl (lv_at hl 0 rfl) ?_
        refine g_get (ci := 7) (C := RX7) (T := TX7) (N := 22) S hinX7 hK hw 0 14 k45 dX7_periodOf_74 rfl rfl (by decide) rfl ?_
        refine lv_iload_n hx hb dX7_periodOf_77 rfl (lv_at hl 1 rfl) ?_
        obtain ⟨b14, hf⟩ := ck_some hf
        refine g_zald S hK hw 2 1 b14 dX7_periodOf_78 rfl rfl ?_
        obtain ⟨b15, hf⟩ := ck_some hf
        refine g_zast (ws' := [(q_t, .inr (7, [.ref q_t_boxes, .ref q_t_next, .int t_done, .ref q_t_left, .ref q_t_pairs, .int t_many, .ref q_t_lengths, .ref q_t_riggings, .int t_told, .ref q_t_toldLength, .ref q_t_toldRigging, .ref q_t_toldRoom, .int t_ringN, .ref q_t_ring, .ref q_t_was, .ref q_t_saved, .ref q_t_isThere, .ref q_t_forms, .ref q_t_sizes, .ref q_t_items, .ref q_t_moved, .int t_finding])), (q_t_ring, .inl (cZ, 40, .inl (upd w_t_ring x2.toNatClampNeg (vp_nar .boolean (w_t_was x2.toNatClampNeg))))), (q_t_was, .inl (cZ, 40, .inl w_t_was))]) S hK hw 1 1 b15 dX7_periodOf_79 rfl rfl rfl (fun H locs hw => ?_)
        refine lv_iinc (v := (x2 + (1 : Int32))) (lv' := [(2, .int (x2 + (1 : Int32))), (0, .ref q_t)]) hx hb dX7_periodOf_80 hl (k := 1) rfl rfl (by decide) rfl (fun ls hl => ?_)
        refine lv_goto (tgt := 60) hx hb dX7_periodOf_83 (by decide) ?_
        exact ih (x2 + (1 : Int32)) (upd w_t_ring x2.toNatClampNeg (vp_nar .boolean (w_t_was x2.toNatClampNeg))) _ _ _ hw (lv_sub hl [1, 0] rfl) hf
  unfold f_X7_periodOf at hf
  refine lv_iconst (v := (0 : Int32)) hx hb dX7_periodOf_0 (by decide) ?_
  refine lv_istore_n (lv' := [(2, .int (0 : Int32)), (0, .ref q_t), (1, .int p1)]) hx hb dX7_periodOf_1 rfl hl (by decide) rfl (fun ls hl => ?_)
  refine Lp2 p1 t_ring _ (fun u4 H locs ls hw hl hf => ?_) N (0 : Int32) t_was _ _ _ hw (lv_sub hl [1, 2, 0] rfl) hf
  refine lv_iconst (v := (1 : Int32)) hx hb dX7_periodOf_28 (by decide) ?_
  refine lv_istore_n (lv' := [(2, .int (1 : Int32)), (0, .ref q_t), (1, .int p1)]) hx hb dX7_periodOf_29 rfl hl (by decide) rfl (fun ls hl => ?_)
  refine Lp30 p1 u4 _ (fun u12 H locs ls hw hl hf => ?_) N (1 : Int32) t_ring _ _ _ hw (lv_sub hl [1, 2, 0] rfl) hf
  refine lv_iconst (v := (0 : Int32)) hx hb dX7_periodOf_58 (by decide) ?_
  refine lv_istore_n (lv' := [(2, .int (0 : Int32)), (0, .ref q_t)]) hx hb dX7_periodOf_59 rfl hl (by decide) rfl (fun ls hl => ?_)
  refine Lp60 u4 _ (fun u16 H locs ls hw hl hf => ?_) N (0 : Int32) u12 _ _ _ hw (lv_sub hl [1, 0] rfl) hf
  refine lv_bipush (v := (-5 : Int32)) hx hb dX7_periodOf_86 (by decide) ?_
  obtain ⟨rfl, rfl, rfl⟩ := pr3 (Option.some.inj hf)
  exact rt_i S hr hlk hw dX7_periodOf_88

def f_X7_period (N : Nat) (p1 : Int32) (t_ringN : Int32) (t_ring : (Nat → Int32)) (t_was : (Nat → Int32)) : Option (Int32 × (Nat → Int32) × (Nat → Int32)) :=
  (bd1 (f_X7_in N p1 (1 : Int32) (50 : Int32)) (fun r1 => (if r1 = (0 : Int32) then (some ((-2 : Int32), t_ring, t_was)) else (bd3 (f_X7_periodOf N p1 t_ringN t_ring t_was) (fun r4 u5 u6 => (some (r4, u5, u6)))))))

set_option maxHeartbeats 4000000 in
set_option maxRecDepth 100000 in
theorem c_X7_period (l : Launch) (D : va_G) (cI cZ cJ cO : ClassId) (sz : Nat) (q_t q_t_boxes q_t_next q_t_left q_t_pairs q_t_lengths q_t_riggings q_t_toldLength q_t_toldRigging q_t_toldRoom q_t_ring q_t_was q_t_saved q_t_isThere q_t_forms q_t_sizes q_t_items q_t_moved : Nat) (N : Nat) (p1 : Int32) (t_done : Int32) (t_many : Int32) (t_told : Int32) (t_ringN : Int32) (t_finding : Int32) (t_ring : (Nat → Int32)) (t_was : (Nat → Int32)) (r : Int32) (o_t_ring : (Nat → Int32)) (o_t_was : (Nat → Int32)) (hf : f_X7_period N p1 t_ringN t_ring t_was = some (r, o_t_ring, o_t_was)) : Met l yX7_period wsX7_period ({ frames := 2, cells := 0, slots := 0, locals := 47 }) (PreC D (TY cI cZ cJ cO) [.ref q_t, .int p1] [(q_t, .inr (7, [.ref q_t_boxes, .ref q_t_next, .int t_done, .ref q_t_left, .ref q_t_pairs, .int t_many, .ref q_t_lengths, .ref q_t_riggings, .int t_told, .ref q_t_toldLength, .ref q_t_toldRigging, .ref q_t_toldRoom, .int t_ringN, .ref q_t_ring, .ref q_t_was, .ref q_t_saved, .ref q_t_isThere, .ref q_t_forms, .ref q_t_sizes, .ref q_t_items, .ref q_t_moved, .int t_finding])), (q_t_ring, .inl (cZ, 40, .inl t_ring)), (q_t_was, .inl (cZ, 40, .inl t_was))] sz) (QcI D [(q_t, .inr (7, [.ref q_t_boxes, .ref q_t_next, .int t_done, .ref q_t_left, .ref q_t_pairs, .int t_many, .ref q_t_lengths, .ref q_t_riggings, .int t_told, .ref q_t_toldLength, .ref q_t_toldRigging, .ref q_t_toldRoom, .int t_ringN, .ref q_t_ring, .ref q_t_was, .ref q_t_saved, .ref q_t_isThere, .ref q_t_forms, .ref q_t_sizes, .ref q_t_items, .ref q_t_moved, .int t_finding])), (q_t_ring, .inl (cZ, 40, .inl o_t_ring)), (q_t_was, .inl (cZ, 40, .inl o_t_was))] (va_A [(q_t, .inr (7, [.ref q_t_boxes, .ref q_t_next, .int t_done, .ref q_t_left, .ref q_t_pairs, .int t_many, .ref q_t_lengths, .ref q_t_riggings, .int t_told, .ref q_t_toldLength, .ref q_t_toldRigging, .ref q_t_toldRoom, .int t_ringN, .ref q_t_ring, .ref q_t_was, .ref q_t_saved, .ref q_t_isThere, .ref q_t_forms, .ref q_t_sizes, .ref q_t_items, .ref q_t_moved, .int t_finding])), (q_t_ring, .inl (cZ, 40, .inl t_ring)), (q_t_was, .inl (cZ, 40, .inl t_was))] sz) r) 0 0 (va_A [(q_t, .inr (7, [.ref q_t_boxes, .ref q_t_next, .int t_done, .ref q_t_left, .ref q_t_pairs, .int t_many, .ref q_t_lengths, .ref q_t_riggings, .int t_told, .ref q_t_toldLength, .ref q_t_toldRigging, .ref q_t_toldRoom, .int t_ringN, .ref q_t_ring, .ref q_t_was, .ref q_t_saved, .ref q_t_isThere, .ref q_t_forms, .ref q_t_sizes, .ref q_t_items, .ref q_t_moved, .int t_finding])), (q_t_ring, .inl (cZ, 40, .inl t_ring)), (q_t_was, .inl (cZ, 40, .inl t_was))] sz) := by
  refine ctr (cc := cX7_period) (maxL := 2) (ret := (some .int)) (by decide) rfl (Nat.le_of_ble_eq_true rfl) ?_
  intro p e s m below meth c S hr hlk hnm hK hN hsz hA hw ls hl
  generalize va_A [(q_t, .inr (7, [.ref q_t_boxes, .ref q_t_next, .int t_done, .ref q_t_left, .ref q_t_pairs, .int t_many, .ref q_t_lengths, .ref q_t_riggings, .int t_told, .ref q_t_toldLength, .ref q_t_toldRigging, .ref q_t_toldRoom, .int t_ringN, .ref q_t_ring, .ref q_t_was, .ref q_t_saved, .ref q_t_isThere, .ref q_t_forms, .ref q_t_sizes, .ref q_t_items, .ref q_t_moved, .int t_finding])), (q_t_ring, .inl (cZ, 40, .inl t_ring)), (q_t_was, .inl (cZ, 40, .inl t_was))] sz = A at hA hw ⊢
  have S : CallFix p m c cX7_period 2 s ([.ref q_t, .int p1] : List Value).toArray wsX7_period RX7 := S
  have hx := S.1
  have hb := S.2.1
  have hts := S.2.2.2.2
  have hl : lv_has ls 2 [(0, .ref q_t), (1, .int p1)] := hl
  unfold f_X7_period at hf
  refine lv_iload_n hx hb dX7_period_0 rfl (lv_at hl 1 rfl) ?_
  refine lv_iconst (v := (1 : Int32)) hx hb dX7_period_1 (by decide) ?_
  refine lv_bipush (v := (50 : Int32)) hx hb dX7_period_2 (by decide) ?_
  obtain ⟨r1, h2, hf⟩ := bd1_some hf
  refine cl_i (wr := [(q_t, .inr (7, [.ref q_t_boxes, .ref q_t_next, .int t_done, .ref q_t_left, .ref q_t_pairs, .int t_many, .ref q_t_lengths, .ref q_t_riggings, .int t_told, .ref q_t_toldLength, .ref q_t_toldRigging, .ref q_t_toldRoom, .int t_ringN, .ref q_t_ring, .ref q_t_was, .ref q_t_saved, .ref q_t_isThere, .ref q_t_forms, .ref q_t_sizes, .ref q_t_items, .ref q_t_moved, .int t_finding])), (q_t_ring, .inl (cZ, 40, .inl t_ring)), (q_t_was, .inl (cZ, 40, .inl t_was))]) (ws' := [(q_t, .inr (7, [.ref q_t_boxes, .ref q_t_next, .int t_done, .ref q_t_left, .ref q_t_pairs, .int t_many, .ref q_t_lengths, .ref q_t_riggings, .int t_told, .ref q_t_toldLength, .ref q_t_toldRigging, .ref q_t_toldRoom, .int t_ringN, .ref q_t_ring, .ref q_t_was, .ref q_t_saved, .ref q_t_isThere, .ref q_t_forms, .ref q_t_sizes, .ref q_t_items, .ref q_t_moved, .int t_finding])), (q_t_ring, .inl (cZ, 40, .inl t_ring)), (q_t_was, .inl (cZ, 40, .inl t_was))]) hA hw [] [0, 1, 2] [0, 1, 2] rfl rfl rfl (by decide) rfl rfl (va_runS (As := [.int p1, .int (1 : Int32), .int (50 : Int32)]) (rest := []) S (c_X7_in l D cI cZ cJ cO _ N p1 (1 : Int32) (50 : Int32) r1 h2) (va_cwS 3 hts gX7_period_X7_in rfl rfl rfl (by decide +kernel) ⟨Nat.le_of_ble_eq_true rfl, Nat.le_of_ble_eq_true rfl⟩) (pre_S hK hN hw [] rfl rfl) rfl rfl hl.1 rfl (lv_room (Nat.le_of_ble_eq_true rfl)) dX7_period_4 ⟨Nat.zero_le _, Nat.zero_le _⟩) (fun H locs hw => ?_)
  refine lv_if_eq (tgt := 18) hx hb dX7_period_7 (by decide) (fun c3 => ?_) (fun c3 => ?_)
  · have hf := (if_pos c3).symm.trans hf
    refine lv_bipush (v := (-2 : Int32)) hx hb dX7_period_18 (by decide) ?_
    obtain ⟨rfl, rfl, rfl⟩ := pr3 (Option.some.inj hf)
    exact rt_i S hr hlk hw dX7_period_20
  · have hf := (if_neg c3).symm.trans hf
    refine lv_aload_n hx hb dX7_period_10 rfl (lv_at hl 0 rfl) ?_
    refine lv_iload_n hx hb dX7_period_11 rfl (lv_at hl 1 rfl) ?_
    obtain ⟨r4, u5, u6, h7, hf⟩ := bd3_some hf
    refine cl_i (wr := []) (ws' := [(q_t, .inr (7, [.ref q_t_boxes, .ref q_t_next, .int t_done, .ref q_t_left, .ref q_t_pairs, .int t_many, .ref q_t_lengths, .ref q_t_riggings, .int t_told, .ref q_t_toldLength, .ref q_t_toldRigging, .ref q_t_toldRoom, .int t_ringN, .ref q_t_ring, .ref q_t_was, .ref q_t_saved, .ref q_t_isThere, .ref q_t_forms, .ref q_t_sizes, .ref q_t_items, .ref q_t_moved, .int t_finding])), (q_t_ring, .inl (cZ, 40, .inl u5)), (q_t_was, .inl (cZ, 40, .inl u6))]) hA hw [0, 1, 2] [] [0, 1, 2] rfl rfl rfl (by decide) rfl rfl (va_runV (As := [.int p1]) (rest := []) S (c_X7_periodOf l D cI cZ cJ cO _ q_t q_t_boxes q_t_next q_t_left q_t_pairs q_t_lengths q_t_riggings q_t_toldLength q_t_toldRigging q_t_toldRoom q_t_ring q_t_was q_t_saved q_t_isThere q_t_forms q_t_sizes q_t_items q_t_moved N p1 t_done t_many t_told t_ringN t_finding t_ring t_was r4 u5 u6 h7) (cwV 1 hts gX7_period_X7_periodOf rfl rfl rfl (by decide +kernel) ⟨Nat.le_of_ble_eq_true rfl, Nat.le_of_ble_eq_true rfl⟩) (pre_V hK hN hw [0, 1, 2] rfl rfl (C := RX7) (T := TX7) (N := 22) (ci := 7) (q0 := 0) rfl rfl) rfl rfl hl.1 rfl (lv_room (Nat.le_of_ble_eq_true rfl)) dX7_period_12 ⟨Nat.zero_le _, Nat.zero_le _⟩) (fun H locs hw => ?_)
    refine lv_goto (tgt := 20) hx hb dX7_period_15 (by decide) ?_
    obtain ⟨rfl, rfl, rfl⟩ := pr3 (Option.some.inj hf)
    exact rt_i S hr hlk hw dX7_period_20

def L_X7_rings_53 (N : Nat) (w_t_ring : (Nat → Int32)) (K : (Nat → Int32) → Option (Int32 × Int32 × (Nat → Int32) × (Nat → Int32) × (Nat → Int32))) : Nat → Int32 → (Nat → Int32) → Option (Int32 × Int32 × (Nat → Int32) × (Nat → Int32) × (Nat → Int32))
  | 0, _, _ => none
  | n + 1, x6, w_t_saved => (if (40 : Int32) ≤ x6 then (K w_t_saved) else (ck (inb x6 40) (ck (inb x6 40) (L_X7_rings_53 N w_t_ring K n (x6 + (1 : Int32)) (upd w_t_saved x6.toNatClampNeg (vp_nar .boolean (w_t_ring x6.toNatClampNeg)))))))

def L_X7_rings_105 (N : Nat) (x1 : Int32) (x7 : Int32) (K : Int32 → (Nat → Int32) → Option (Int32 × Int32 × (Nat → Int32) × (Nat → Int32) × (Nat → Int32))) : Nat → Int32 → Int32 → (Nat → Int32) → Option (Int32 × Int32 × (Nat → Int32) × (Nat → Int32) × (Nat → Int32))
  | 0, _, _, _ => none
  | n + 1, x8, x9, w_t_ring => (if x1 ≤ x9 then (K x8 w_t_ring) else (if ((x7 >>> (x9 &&& 31)) &&& (1 : Int32)) = (1 : Int32) then (ck (inb x9 40) (ck (inb x9 40) (if ((upd w_t_ring x9.toNatClampNeg (vp_nar .boolean (1 : Int32))) x9.toNatClampNeg) = (0 : Int32) then (L_X7_rings_105 N x1 x7 K n (x8 + (0 : Int32)) (x9 + (1 : Int32)) (upd w_t_ring x9.toNatClampNeg (vp_nar .boolean (1 : Int32)))) else (L_X7_rings_105 N x1 x7 K n (x8 + (1 : Int32)) (x9 + (1 : Int32)) (upd w_t_ring x9.toNatClampNeg (vp_nar .boolean (1 : Int32))))))) else (ck (inb x9 40) (ck (inb x9 40) (if ((upd w_t_ring x9.toNatClampNeg (vp_nar .boolean (0 : Int32))) x9.toNatClampNeg) = (0 : Int32) then (L_X7_rings_105 N x1 x7 K n (x8 + (0 : Int32)) (x9 + (1 : Int32)) (upd w_t_ring x9.toNatClampNeg (vp_nar .boolean (0 : Int32)))) else (L_X7_rings_105 N x1 x7 K n (x8 + (1 : Int32)) (x9 + (1 : Int32)) (upd w_t_ring x9.toNatClampNeg (vp_nar .boolean (0 : Int32)))))))))

def L_X7_rings_91 (N : Nat) (x1 : Int32) (x2 : Int32) (x3 : Int32) (x4 : Int32) (w_t_ringN : Int32) (K : Int32 → (Nat → Int32) → (Nat → Int32) → Option (Int32 × Int32 × (Nat → Int32) × (Nat → Int32) × (Nat → Int32))) : Nat → Int32 → Int32 → (Nat → Int32) → (Nat → Int32) → Option (Int32 × Int32 × (Nat → Int32) × (Nat → Int32) × (Nat → Int32))
  | 0, _, _, _, _ => none
  | n + 1, x6, x7, w_t_ring, w_t_was => (if ((1 : Int32) <<< (x1 &&& 31)) ≤ x7 then (K x6 w_t_ring w_t_was) else (L_X7_rings_105 N x1 x7 (fun y23 u24 => (if y23 = x2 then (if x4 = (0 : Int32) then (L_X7_rings_91 N x1 x2 x3 x4 w_t_ringN K n (x6 + (1 : Int32)) (x7 + (1 : Int32)) u24 w_t_was) else (bd3 (f_X7_periodOf N x3 w_t_ringN u24 w_t_was) (fun r27 u28 u29 => (if r27 = x4 then (L_X7_rings_91 N x1 x2 x3 x4 w_t_ringN K n (x6 + (1 : Int32)) (x7 + (1 : Int32)) u28 u29) else (L_X7_rings_91 N x1 x2 x3 x4 w_t_ringN K n (x6 + (0 : Int32)) (x7 + (1 : Int32)) u28 u29))))) else (L_X7_rings_91 N x1 x2 x3 x4 w_t_ringN K n x6 (x7 + (1 : Int32)) u24 w_t_was))) N (0 : Int32) (0 : Int32) w_t_ring))

def L_X7_rings_206 (N : Nat) (w_t_saved : (Nat → Int32)) (K : (Nat → Int32) → Option (Int32 × Int32 × (Nat → Int32) × (Nat → Int32) × (Nat → Int32))) : Nat → Int32 → (Nat → Int32) → Option (Int32 × Int32 × (Nat → Int32) × (Nat → Int32) × (Nat → Int32))
  | 0, _, _ => none
  | n + 1, x7, w_t_ring => (if (40 : Int32) ≤ x7 then (K w_t_ring) else (ck (inb x7 40) (ck (inb x7 40) (L_X7_rings_206 N w_t_saved K n (x7 + (1 : Int32)) (upd w_t_ring x7.toNatClampNeg (vp_nar .boolean (w_t_saved x7.toNatClampNeg)))))))

def f_X7_rings (N : Nat) (p1 : Int32) (p2 : Int32) (p3 : Int32) (p4 : Int32) (t_ringN : Int32) (t_ring : (Nat → Int32)) (t_was : (Nat → Int32)) (t_saved : (Nat → Int32)) : Option (Int32 × Int32 × (Nat → Int32) × (Nat → Int32) × (Nat → Int32)) :=
  (bd1 (f_X7_in N p1 (1 : Int32) (12 : Int32)) (fun r1 => (if r1 = (0 : Int32) then (some ((-2 : Int32), t_ringN, t_ring, t_was, t_saved)) else (if p2 < (0 : Int32) then (some ((-2 : Int32), t_ringN, t_ring, t_was, t_saved)) else (if (0 : Int32) ≤ (lg_cmp ((2 : Int64) * p2.toInt64) p1.toInt64) then (some ((-2 : Int32), t_ringN, t_ring, t_was, t_saved)) else (bd1 (f_X7_in N p3 (1 : Int32) (50 : Int32)) (fun r6 => (if r6 = (0 : Int32) then (some ((-2 : Int32), t_ringN, t_ring, t_was, t_saved)) else (if (0 : Int32) ≤ p4 then (L_X7_rings_53 N t_ring (fun u13 => (L_X7_rings_91 N p1 p2 p3 p4 p1 (fun y32 u33 u34 => (L_X7_rings_206 N u13 (fun u38 => (some (y32, t_ringN, u38, u34, u13))) N (0 : Int32) u33)) N (0 : Int32) (0 : Int32) t_ring t_was)) N (0 : Int32) t_saved) else (some ((-2 : Int32), t_ringN, t_ring, t_was, t_saved)))))))))))

set_option maxHeartbeats 4000000 in
set_option maxRecDepth 100000 in
theorem c_X7_rings (l : Launch) (D : va_G) (cI cZ cJ cO : ClassId) (sz : Nat) (q_t q_t_boxes q_t_next q_t_left q_t_pairs q_t_lengths q_t_riggings q_t_toldLength q_t_toldRigging q_t_toldRoom q_t_ring q_t_was q_t_saved q_t_isThere q_t_forms q_t_sizes q_t_items q_t_moved : Nat) (N : Nat) (p1 : Int32) (p2 : Int32) (p3 : Int32) (p4 : Int32) (t_done : Int32) (t_many : Int32) (t_told : Int32) (t_ringN : Int32) (t_finding : Int32) (t_ring : (Nat → Int32)) (t_was : (Nat → Int32)) (t_saved : (Nat → Int32)) (r : Int32) (o_t_ringN : Int32) (o_t_ring : (Nat → Int32)) (o_t_was : (Nat → Int32)) (o_t_saved : (Nat → Int32)) (hf : f_X7_rings N p1 p2 p3 p4 t_ringN t_ring t_was t_saved = some (r, o_t_ringN, o_t_ring, o_t_was, o_t_saved)) : Met l yX7_rings wsX7_rings ({ frames := 2, cells := 0, slots := 0, locals := 47 }) (PreC D (TY cI cZ cJ cO) [.ref q_t, .int p1, .int p2, .int p3, .int p4] [(q_t, .inr (7, [.ref q_t_boxes, .ref q_t_next, .int t_done, .ref q_t_left, .ref q_t_pairs, .int t_many, .ref q_t_lengths, .ref q_t_riggings, .int t_told, .ref q_t_toldLength, .ref q_t_toldRigging, .ref q_t_toldRoom, .int t_ringN, .ref q_t_ring, .ref q_t_was, .ref q_t_saved, .ref q_t_isThere, .ref q_t_forms, .ref q_t_sizes, .ref q_t_items, .ref q_t_moved, .int t_finding])), (q_t_ring, .inl (cZ, 40, .inl t_ring)), (q_t_was, .inl (cZ, 40, .inl t_was)), (q_t_saved, .inl (cZ, 40, .inl t_saved))] sz) (QcI D [(q_t, .inr (7, [.ref q_t_boxes, .ref q_t_next, .int t_done, .ref q_t_left, .ref q_t_pairs, .int t_many, .ref q_t_lengths, .ref q_t_riggings, .int t_told, .ref q_t_toldLength, .ref q_t_toldRigging, .ref q_t_toldRoom, .int o_t_ringN, .ref q_t_ring, .ref q_t_was, .ref q_t_saved, .ref q_t_isThere, .ref q_t_forms, .ref q_t_sizes, .ref q_t_items, .ref q_t_moved, .int t_finding])), (q_t_ring, .inl (cZ, 40, .inl o_t_ring)), (q_t_was, .inl (cZ, 40, .inl o_t_was)), (q_t_saved, .inl (cZ, 40, .inl o_t_saved))] (va_A [(q_t, .inr (7, [.ref q_t_boxes, .ref q_t_next, .int t_done, .ref q_t_left, .ref q_t_pairs, .int t_many, .ref q_t_lengths, .ref q_t_riggings, .int t_told, .ref q_t_toldLength, .ref q_t_toldRigging, .ref q_t_toldRoom, .int t_ringN, .ref q_t_ring, .ref q_t_was, .ref q_t_saved, .ref q_t_isThere, .ref q_t_forms, .ref q_t_sizes, .ref q_t_items, .ref q_t_moved, .int t_finding])), (q_t_ring, .inl (cZ, 40, .inl t_ring)), (q_t_was, .inl (cZ, 40, .inl t_was)), (q_t_saved, .inl (cZ, 40, .inl t_saved))] sz) r) 0 0 (va_A [(q_t, .inr (7, [.ref q_t_boxes, .ref q_t_next, .int t_done, .ref q_t_left, .ref q_t_pairs, .int t_many, .ref q_t_lengths, .ref q_t_riggings, .int t_told, .ref q_t_toldLength, .ref q_t_toldRigging, .ref q_t_toldRoom, .int t_ringN, .ref q_t_ring, .ref q_t_was, .ref q_t_saved, .ref q_t_isThere, .ref q_t_forms, .ref q_t_sizes, .ref q_t_items, .ref q_t_moved, .int t_finding])), (q_t_ring, .inl (cZ, 40, .inl t_ring)), (q_t_was, .inl (cZ, 40, .inl t_was)), (q_t_saved, .inl (cZ, 40, .inl t_saved))] sz) := by
  refine ctr (cc := cX7_rings) (maxL := 10) (ret := (some .int)) (by decide) rfl (Nat.le_of_ble_eq_true rfl) ?_
  intro p e s m below meth c S hr hlk hnm hK hN hsz hA hw ls hl
  generalize va_A [(q_t, .inr (7, [.ref q_t_boxes, .ref q_t_next, .int t_done, .ref q_t_left, .ref q_t_pairs, .int t_many, .ref q_t_lengths, .ref q_t_riggings, .int t_told, .ref q_t_toldLength, .ref q_t_toldRigging, .ref q_t_toldRoom, .int t_ringN, .ref q_t_ring, .ref q_t_was, .ref q_t_saved, .ref q_t_isThere, .ref q_t_forms, .ref q_t_sizes, .ref q_t_items, .ref q_t_moved, .int t_finding])), (q_t_ring, .inl (cZ, 40, .inl t_ring)), (q_t_was, .inl (cZ, 40, .inl t_was)), (q_t_saved, .inl (cZ, 40, .inl t_saved))] sz = A at hA hw ⊢
  have S : CallFix p m c cX7_rings 10 s ([.ref q_t, .int p1, .int p2, .int p3, .int p4] : List Value).toArray wsX7_rings RX7 := S
  have hx := S.1
  have hb := S.2.1
  have hts := S.2.2.2.2
  have hl : lv_has ls 10 [(0, .ref q_t), (1, .int p1), (2, .int p2), (3, .int p3), (4, .int p4)] := hl
  have hinX7 : ∀ w ∈ u_ws RX7 TX7 22, w ∈ wsX7_rings := by decide +kernel
  have k38 : Cond.fieldLink RX7 38 "BallBoxesModel" "ringN" "I" ∈ wsX7_rings := by decide +kernel
  have k42 : Cond.fieldLink RX7 42 "BallBoxesModel" "ring" "[Z" ∈ wsX7_rings := by decide +kernel
  have k48 : Cond.fieldLink RX7 48 "BallBoxesModel" "saved" "[Z" ∈ wsX7_rings := by decide +kernel
  have Lp53 : ∀ (x1 : Int32) (x2 : Int32) (x3 : Int32) (x4 : Int32) (x5 : Int32) (w_t_ringN : Int32) (w_t_ring : (Nat → Int32)) (w_t_was : (Nat → Int32)) (K : (Nat → Int32) → Option (Int32 × Int32 × (Nat → Int32) × (Nat → Int32) × (Nat → Int32))), (∀ (z_t_saved : (Nat → Int32)) (H : Heap) (locs : List Loc) (ls : Array Slot), Wd D A s.heap [(q_t, .inr (7, [.ref q_t_boxes, .ref q_t_next, .int t_done, .ref q_t_left, .ref q_t_pairs, .int t_many, .ref q_t_lengths, .ref q_t_riggings, .int t_told, .ref q_t_toldLength, .ref q_t_toldRigging, .ref q_t_toldRoom, .int w_t_ringN, .ref q_t_ring, .ref q_t_was, .ref q_t_saved, .ref q_t_isThere, .ref q_t_forms, .ref q_t_sizes, .ref q_t_items, .ref q_t_moved, .int t_finding])), (q_t_ring, .inl (cZ, 40, .inl w_t_ring)), (q_t_was, .inl (cZ, 40, .inl w_t_was)), (q_t_saved, .inl (cZ, 40, .inl z_t_saved))] H locs → lv_has ls 10 [(0, .ref q_t), (1, .int x1), (2, .int x2), (3, .int x3), (4, .int x4), (5, .int x5)] → K z_t_saved = some (r, o_t_ringN, o_t_ring, o_t_was, o_t_saved) → W p l e ({ frames := 2, cells := 0, slots := 0, locals := 47 } : Room) s m ([.ref q_t, .int p1, .int p2, .int p3, .int p4] : List Value).toArray below meth c H locs 0 0 (MQ below (QcI D [(q_t, .inr (7, [.ref q_t_boxes, .ref q_t_next, .int t_done, .ref q_t_left, .ref q_t_pairs, .int t_many, .ref q_t_lengths, .ref q_t_riggings, .int t_told, .ref q_t_toldLength, .ref q_t_toldRigging, .ref q_t_toldRoom, .int o_t_ringN, .ref q_t_ring, .ref q_t_was, .ref q_t_saved, .ref q_t_isThere, .ref q_t_forms, .ref q_t_sizes, .ref q_t_items, .ref q_t_moved, .int t_finding])), (q_t_ring, .inl (cZ, 40, .inl o_t_ring)), (q_t_was, .inl (cZ, 40, .inl o_t_was)), (q_t_saved, .inl (cZ, 40, .inl o_t_saved))] A r) ([.ref q_t, .int p1, .int p2, .int p3, .int p4] : List Value).toArray s 0 0 A) (F0 m 80 ls [])) → ∀ (n : Nat) (x6 : Int32) (w_t_saved : (Nat → Int32)) (H : Heap) (locs : List Loc) (ls : Array Slot), Wd D A s.heap [(q_t, .inr (7, [.ref q_t_boxes, .ref q_t_next, .int t_done, .ref q_t_left, .ref q_t_pairs, .int t_many, .ref q_t_lengths, .ref q_t_riggings, .int t_told, .ref q_t_toldLength, .ref q_t_toldRigging, .ref q_t_toldRoom, .int w_t_ringN, .ref q_t_ring, .ref q_t_was, .ref q_t_saved, .ref q_t_isThere, .ref q_t_forms, .ref q_t_sizes, .ref q_t_items, .ref q_t_moved, .int t_finding])), (q_t_ring, .inl (cZ, 40, .inl w_t_ring)), (q_t_was, .inl (cZ, 40, .inl w_t_was)), (q_t_saved, .inl (cZ, 40, .inl w_t_saved))] H locs → lv_has ls 10 [(0, .ref q_t), (1, .int x1), (2, .int x2), (3, .int x3), (4, .int x4), (5, .int x5), (6, .int x6)] → L_X7_rings_53 N w_t_ring K n x6 w_t_saved = some (r, o_t_ringN, o_t_ring, o_t_was, o_t_saved) → W p l e ({ frames := 2, cells := 0, slots := 0, locals := 47 } : Room) s m ([.ref q_t, .int p1, .int p2, .int p3, .int p4] : List Value).toArray below meth c H locs 0 0 (MQ below (QcI D [(q_t, .inr (7, [.ref q_t_boxes, .ref q_t_next, .int t_done, .ref q_t_left, .ref q_t_pairs, .int t_many, .ref q_t_lengths, .ref q_t_riggings, .int t_told, .ref q_t_toldLength, .ref q_t_toldRigging, .ref q_t_toldRoom, .int o_t_ringN, .ref q_t_ring, .ref q_t_was, .ref q_t_saved, .ref q_t_isThere, .ref q_t_forms, .ref q_t_sizes, .ref q_t_items, .ref q_t_moved, .int t_finding])), (q_t_ring, .inl (cZ, 40, .inl o_t_ring)), (q_t_was, .inl (cZ, 40, .inl o_t_was)), (q_t_saved, .inl (cZ, 40, .inl o_t_saved))] A r) ([.ref q_t, .int p1, .int p2, .int p3, .int p4] : List Value).toArray s 0 0 A) (F0 m 53 ls []) := by
    intro x1 x2 x3 x4 x5 w_t_ringN w_t_ring w_t_was K hKx n
    induction n with
    | zero =>
      intro x6 w_t_saved H locs ls hw hl hf
      rw [L_X7_rings_53] at hf
      cases hf
    | succ n ih =>
      intro x6 w_t_saved H locs ls hw hl hf
      rw [L_X7_rings_53] at hf
      refine lv_iload hx hb dX7_rings_53 (lv_at hl 6 rfl) ?_
      refine lv_bipush (v := (40 : Int32)) hx hb dX7_rings_55 (by decide) ?_
      refine lv_icmp_ge (tgt := 80) hx hb dX7_rings_57 (by decide) (fun c10 => ?_) (fun c10 => ?_)
      · have hf := (if_pos c10).symm.trans hf
        exact hKx w_t_saved _ _ _ hw (lv_sub hl [0, 1, 2, 3, 4, 5] rfl) hf
      · have hf := (if_neg c10).symm.trans hf
        refine lv_aload_n hx hb dX7_rings_60 rfl (lv_at hl 0 rfl) ?_
        refine g_get (ci := 7) (C := RX7) (T := TX7) (N := 22) S hinX7 hK hw 0 15 k48 dX7_rings_61 rfl rfl (by decide) rfl ?_
        refine lv_iload hx hb dX7_rings_64 (lv_at hl 6 rfl) ?_
        refine lv_aload_n hx hb dX7_rings_66 rfl (lv_at hl 0 rfl) ?_
        refine g_get (ci := 7) (C := RX7) (T := TX7) (N := 22) S hinX7 hK hw 0 13 k42 dX7_rings_67 rfl rfl (by decide) rfl ?_
        refine lv_iload hx hb dX7_rings_70 (lv_at hl 6 rfl) ?_
        obtain ⟨b11, hf⟩ := ck_some hf
        refine g_zald S hK hw 1 1 b11 dX7_rings_72 rfl rfl ?_
        obtain ⟨b12, hf⟩ := ck_some hf
        refine g_zast (ws' := [(q_t, .inr (7, [.ref q_t_boxes, .ref q_t_next, .int t_done, .ref q_t_left, .ref q_t_pairs, .int t_many, .ref q_t_lengths, .ref q_t_riggings, .int t_told, .ref q_t_toldLength, .ref q_t_toldRigging, .ref q_t_toldRoom, .int w_t_ringN, .ref q_t_ring, .ref q_t_was, .ref q_t_saved, .ref q_t_isThere, .ref q_t_forms, .ref q_t_sizes, .ref q_t_items, .ref q_t_moved, .int t_finding])), (q_t_ring, .inl (cZ, 40, .inl w_t_ring)), (q_t_was, .inl (cZ, 40, .inl w_t_was)), (q_t_saved, .inl (cZ, 40, .inl (upd w_t_saved x6.toNatClampNeg (vp_nar .boolean (w_t_ring x6.toNatClampNeg)))))]) S hK hw 3 1 b12 dX7_rings_73 rfl rfl rfl (fun H locs hw => ?_)
        refine lv_iinc (v := (x6 + (1 : Int32))) (lv' := [(6, .int (x6 + (1 : Int32))), (0, .ref q_t), (1, .int x1), (2, .int x2), (3, .int x3), (4, .int x4), (5, .int x5)]) hx hb dX7_rings_74 hl (k := 6) rfl rfl (by decide) rfl (fun ls hl => ?_)
        refine lv_goto (tgt := 53) hx hb dX7_rings_77 (by decide) ?_
        exact ih (x6 + (1 : Int32)) (upd w_t_saved x6.toNatClampNeg (vp_nar .boolean (w_t_ring x6.toNatClampNeg))) _ _ _ hw (lv_sub hl [1, 2, 3, 4, 5, 6, 0] rfl) hf
  have Lp105 : ∀ (x1 : Int32) (x2 : Int32) (x3 : Int32) (x4 : Int32) (x5 : Int32) (x6 : Int32) (x7 : Int32) (w_t_ringN : Int32) (w_t_was : (Nat → Int32)) (w_t_saved : (Nat → Int32)) (K : Int32 → (Nat → Int32) → Option (Int32 × Int32 × (Nat → Int32) × (Nat → Int32) × (Nat → Int32))), (∀ (z8 : Int32) (z_t_ring : (Nat → Int32)) (H : Heap) (locs : List Loc) (ls : Array Slot), Wd D A s.heap [(q_t, .inr (7, [.ref q_t_boxes, .ref q_t_next, .int t_done, .ref q_t_left, .ref q_t_pairs, .int t_many, .ref q_t_lengths, .ref q_t_riggings, .int t_told, .ref q_t_toldLength, .ref q_t_toldRigging, .ref q_t_toldRoom, .int w_t_ringN, .ref q_t_ring, .ref q_t_was, .ref q_t_saved, .ref q_t_isThere, .ref q_t_forms, .ref q_t_sizes, .ref q_t_items, .ref q_t_moved, .int t_finding])), (q_t_ring, .inl (cZ, 40, .inl z_t_ring)), (q_t_was, .inl (cZ, 40, .inl w_t_was)), (q_t_saved, .inl (cZ, 40, .inl w_t_saved))] H locs → lv_has ls 10 [(0, .ref q_t), (1, .int x1), (2, .int x2), (3, .int x3), (4, .int x4), (5, .int x5), (6, .int x6), (7, .int x7), (8, .int z8)] → K z8 z_t_ring = some (r, o_t_ringN, o_t_ring, o_t_was, o_t_saved) → W p l e ({ frames := 2, cells := 0, slots := 0, locals := 47 } : Room) s m ([.ref q_t, .int p1, .int p2, .int p3, .int p4] : List Value).toArray below meth c H locs 0 0 (MQ below (QcI D [(q_t, .inr (7, [.ref q_t_boxes, .ref q_t_next, .int t_done, .ref q_t_left, .ref q_t_pairs, .int t_many, .ref q_t_lengths, .ref q_t_riggings, .int t_told, .ref q_t_toldLength, .ref q_t_toldRigging, .ref q_t_toldRoom, .int o_t_ringN, .ref q_t_ring, .ref q_t_was, .ref q_t_saved, .ref q_t_isThere, .ref q_t_forms, .ref q_t_sizes, .ref q_t_items, .ref q_t_moved, .int t_finding])), (q_t_ring, .inl (cZ, 40, .inl o_t_ring)), (q_t_was, .inl (cZ, 40, .inl o_t_was)), (q_t_saved, .inl (cZ, 40, .inl o_t_saved))] A r) ([.ref q_t, .int p1, .int p2, .int p3, .int p4] : List Value).toArray s 0 0 A) (F0 m 160 ls [])) → ∀ (n : Nat) (x8 : Int32) (x9 : Int32) (w_t_ring : (Nat → Int32)) (H : Heap) (locs : List Loc) (ls : Array Slot), Wd D A s.heap [(q_t, .inr (7, [.ref q_t_boxes, .ref q_t_next, .int t_done, .ref q_t_left, .ref q_t_pairs, .int t_many, .ref q_t_lengths, .ref q_t_riggings, .int t_told, .ref q_t_toldLength, .ref q_t_toldRigging, .ref q_t_toldRoom, .int w_t_ringN, .ref q_t_ring, .ref q_t_was, .ref q_t_saved, .ref q_t_isThere, .ref q_t_forms, .ref q_t_sizes, .ref q_t_items, .ref q_t_moved, .int t_finding])), (q_t_ring, .inl (cZ, 40, .inl w_t_ring)), (q_t_was, .inl (cZ, 40, .inl w_t_was)), (q_t_saved, .inl (cZ, 40, .inl w_t_saved))] H locs → lv_has ls 10 [(0, .ref q_t), (1, .int x1), (2, .int x2), (3, .int x3), (4, .int x4), (5, .int x5), (6, .int x6), (7, .int x7), (8, .int x8), (9, .int x9)] → L_X7_rings_105 N x1 x7 K n x8 x9 w_t_ring = some (r, o_t_ringN, o_t_ring, o_t_was, o_t_saved) → W p l e ({ frames := 2, cells := 0, slots := 0, locals := 47 } : Room) s m ([.ref q_t, .int p1, .int p2, .int p3, .int p4] : List Value).toArray below meth c H locs 0 0 (MQ below (QcI D [(q_t, .inr (7, [.ref q_t_boxes, .ref q_t_next, .int t_done, .ref q_t_left, .ref q_t_pairs, .int t_many, .ref q_t_lengths, .ref q_t_riggings, .int t_told, .ref q_t_toldLength, .ref q_t_toldRigging, .ref q_t_toldRoom, .int o_t_ringN, .ref q_t_ring, .ref q_t_was, .ref q_t_saved, .ref q_t_isThere, .ref q_t_forms, .ref q_t_sizes, .ref q_t_items, .ref q_t_moved, .int t_finding])), (q_t_ring, .inl (cZ, 40, .inl o_t_ring)), (q_t_was, .inl (cZ, 40, .inl o_t_was)), (q_t_saved, .inl (cZ, 40, .inl o_t_saved))] A r) ([.ref q_t, .int p1, .int p2, .int p3, .int p4] : List Value).toArray s 0 0 A) (F0 m 105 ls []) := by
    intro x1 x2 x3 x4 x5 x6 x7 w_t_ringN w_t_was w_t_saved K hKx n
    induction n with
    | zero =>
      intro x8 x9 w_t_ring H locs ls hw hl hf
      rw [L_X7_rings_105] at hf
      cases hf
    | succ n ih =>
      intro x8 x9 w_t_ring H locs ls hw hl hf
      rw [L_X7_rings_105] at hf
      refine lv_iload hx hb dX7_rings_105 (lv_at hl 9 rfl) ?_
      refine lv_iload_n hx hb dX7_rings_107 rfl (lv_at hl 1 rfl) ?_
      refine lv_icmp_ge (tgt := 160) hx hb dX7_rings_108 (by decide) (fun c15 => ?_) (fun c15 => ?_)
      · have hf := (if_pos c15).symm.trans hf
        exact hKx x8 w_t_ring _ _ _ hw (lv_sub hl [0, 1, 2, 3, 4, 5, 6, 7, 8] rfl) hf
      · have hf := (if_neg c15).symm.trans hf
        refine lv_aload_n hx hb dX7_rings_111 rfl (lv_at hl 0 rfl) ?_
        refine g_get (ci := 7) (C := RX7) (T := TX7) (N := 22) S hinX7 hK hw 0 13 k42 dX7_rings_112 rfl rfl (by decide) rfl ?_
        refine lv_iload hx hb dX7_rings_115 (lv_at hl 9 rfl) ?_
        refine lv_iload hx hb dX7_rings_117 (lv_at hl 7 rfl) ?_
        refine lv_iload hx hb dX7_rings_119 (lv_at hl 9 rfl) ?_
        refine lv_ishr hx hb dX7_rings_121 ?_
        refine lv_iconst (v := (1 : Int32)) hx hb dX7_rings_122 (by decide) ?_
        refine lv_iand hx hb dX7_rings_123 ?_
        refine lv_iconst (v := (1 : Int32)) hx hb dX7_rings_124 (by decide) ?_
        refine lv_icmp_ne (tgt := 132) hx hb dX7_rings_125 (by decide) (fun c16 => ?_) (fun c16 => ?_)
        · have hf := (if_neg c16).symm.trans hf
          refine lv_iconst (v := (0 : Int32)) hx hb dX7_rings_132 (by decide) ?_
          obtain ⟨b17, hf⟩ := ck_some hf
          refine g_zast (ws' := [(q_t, .inr (7, [.ref q_t_boxes, .ref q_t_next, .int t_done, .ref q_t_left, .ref q_t_pairs, .int t_many, .ref q_t_lengths, .ref q_t_riggings, .int t_told, .ref q_t_toldLength, .ref q_t_toldRigging, .ref q_t_toldRoom, .int w_t_ringN, .ref q_t_ring, .ref q_t_was, .ref q_t_saved, .ref q_t_isThere, .ref q_t_forms, .ref q_t_sizes, .ref q_t_items, .ref q_t_moved, .int t_finding])), (q_t_ring, .inl (cZ, 40, .inl (upd w_t_ring x9.toNatClampNeg (vp_nar .boolean (0 : Int32))))), (q_t_was, .inl (cZ, 40, .inl w_t_was)), (q_t_saved, .inl (cZ, 40, .inl w_t_saved))]) S hK hw 1 1 b17 dX7_rings_133 rfl rfl rfl (fun H locs hw => ?_)
          refine lv_iload hx hb dX7_rings_134 (lv_at hl 8 rfl) ?_
          refine lv_aload_n hx hb dX7_rings_136 rfl (lv_at hl 0 rfl) ?_
          refine g_get (ci := 7) (C := RX7) (T := TX7) (N := 22) S hinX7 hK hw 0 13 k42 dX7_rings_137 rfl rfl (by decide) rfl ?_
          refine lv_iload hx hb dX7_rings_140 (lv_at hl 9 rfl) ?_
          obtain ⟨b18, hf⟩ := ck_some hf
          refine g_zald S hK hw 1 1 b18 dX7_rings_142 rfl rfl ?_
          refine lv_if_eq (tgt := 150) hx hb dX7_rings_143 (by decide) (fun c19 => ?_) (fun c19 => ?_)
          · have hf := (if_pos c19).symm.trans hf
            refine lv_iconst (v := (0 : Int32)) hx hb dX7_rings_150 (by decide) ?_
            refine lv_iadd hx hb dX7_rings_151 ?_
            refine lv_istore (lv' := [(8, .int (x8 + (0 : Int32))), (0, .ref q_t), (1, .int x1), (2, .int x2), (3, .int x3), (4, .int x4), (5, .int x5), (6, .int x6), (7, .int x7), (9, .int x9)]) hx hb dX7_rings_152 hl (by decide) rfl (fun ls hl => ?_)
            refine lv_iinc (v := (x9 + (1 : Int32))) (lv' := [(9, .int (x9 + (1 : Int32))), (8, .int (x8 + (0 : Int32))), (0, .ref q_t), (1, .int x1), (2, .int x2), (3, .int x3), (4, .int x4), (5, .int x5), (6, .int x6), (7, .int x7)]) hx hb dX7_rings_154 hl (k := 9) rfl rfl (by decide) rfl (fun ls hl => ?_)
            refine lv_goto (tgt := 105) hx hb dX7_rings_157 (by decide) ?_
            exact ih (x8 + (0 : Int32)) (x9 + (1 : Int32)) (upd w_t_ring x9.toNatClampNeg (vp_nar .boolean (0 : Int32))) _ _ _ hw (lv_sub hl [2, 3, 4, 5, 6, 7, 8, 9, 1, 0] rfl) hf
          · have hf := (if_neg c19).symm.trans hf
            refine lv_iconst (v := (1 : Int32)) hx hb dX7_rings_146 (by decide) ?_
            refine lv_goto (tgt := 151) hx hb dX7_rings_147 (by decide) ?_
            refine lv_iadd hx hb dX7_rings_151 ?_
            refine lv_istore (lv' := [(8, .int (x8 + (1 : Int32))), (0, .ref q_t), (1, .int x1), (2, .int x2), (3, .int x3), (4, .int x4), (5, .int x5), (6, .int x6), (7, .int x7), (9, .int x9)]) hx hb dX7_rings_152 hl (by decide) rfl (fun ls hl => ?_)
            refine lv_iinc (v := (x9 + (1 : Int32))) (lv' := [(9, .int (x9 + (1 : Int32))), (8, .int (x8 + (1 : Int32))), (0, .ref q_t), (1, .int x1), (2, .int x2), (3, .int x3), (4, .int x4), (5, .int x5), (6, .int x6), (7, .int x7)]) hx hb dX7_rings_154 hl (k := 9) rfl rfl (by decide) rfl (fun ls hl => ?_)
            refine lv_goto (tgt := 105) hx hb dX7_rings_157 (by decide) ?_
            exact ih (x8 + (1 : Int32)) (x9 + (1 : Int32)) (upd w_t_ring x9.toNatClampNeg (vp_nar .boolean (0 : Int32))) _ _ _ hw (lv_sub hl [2, 3, 4, 5, 6, 7, 8, 9, 1, 0] rfl) hf
        · have hf := (if_pos c16).symm.trans hf
          refine lv_iconst (v := (1 : Int32)) hx hb dX7_rings_128 (by decide) ?_
          refine lv_goto (tgt := 133) hx hb dX7_rings_129 (by decide) ?_
          obtain ⟨b20, hf⟩ := ck_some hf
          refine g_zast (ws' := [(q_t, .inr (7, [.ref q_t_boxes, .ref q_t_next, .int t_done, .ref q_t_left, .ref q_t_pairs, .int t_many, .ref q_t_lengths, .ref q_t_riggings, .int t_told, .ref q_t_toldLength, .ref q_t_toldRigging, .ref q_t_toldRoom, .int w_t_ringN, .ref q_t_ring, .ref q_t_was, .ref q_t_saved, .ref q_t_isThere, .ref q_t_forms, .ref q_t_sizes, .ref q_t_items, .ref q_t_moved, .int t_finding])), (q_t_ring, .inl (cZ, 40, .inl (upd w_t_ring x9.toNatClampNeg (vp_nar .boolean (1 : Int32))))), (q_t_was, .inl (cZ, 40, .inl w_t_was)), (q_t_saved, .inl (cZ, 40, .inl w_t_saved))]) S hK hw 1 1 b20 dX7_rings_133 rfl rfl rfl (fun H locs hw => ?_)
          refine lv_iload hx hb dX7_rings_134 (lv_at hl 8 rfl) ?_
          refine lv_aload_n hx hb dX7_rings_136 rfl (lv_at hl 0 rfl) ?_
          refine g_get (ci := 7) (C := RX7) (T := TX7) (N := 22) S hinX7 hK hw 0 13 k42 dX7_rings_137 rfl rfl (by decide) rfl ?_
          refine lv_iload hx hb dX7_rings_140 (lv_at hl 9 rfl) ?_
          obtain ⟨b21, hf⟩ := ck_some hf
          refine g_zald S hK hw 1 1 b21 dX7_rings_142 rfl rfl ?_
          refine lv_if_eq (tgt := 150) hx hb dX7_rings_143 (by decide) (fun c22 => ?_) (fun c22 => ?_)
          · have hf := (if_pos c22).symm.trans hf
            refine lv_iconst (v := (0 : Int32)) hx hb dX7_rings_150 (by decide) ?_
            refine lv_iadd hx hb dX7_rings_151 ?_
            refine lv_istore (lv' := [(8, .int (x8 + (0 : Int32))), (0, .ref q_t), (1, .int x1), (2, .int x2), (3, .int x3), (4, .int x4), (5, .int x5), (6, .int x6), (7, .int x7), (9, .int x9)]) hx hb dX7_rings_152 hl (by decide) rfl (fun ls hl => ?_)
            refine lv_iinc (v := (x9 + (1 : Int32))) (lv' := [(9, .int (x9 + (1 : Int32))), (8, .int (x8 + (0 : Int32))), (0, .ref q_t), (1, .int x1), (2, .int x2), (3, .int x3), (4, .int x4), (5, .int x5), (6, .int x6), (7, .int x7)]) hx hb dX7_rings_154 hl (k := 9) rfl rfl (by decide) rfl (fun ls hl => ?_)
            refine lv_goto (tgt := 105) hx hb dX7_rings_157 (by decide) ?_
            exact ih (x8 + (0 : Int32)) (x9 + (1 : Int32)) (upd w_t_ring x9.toNatClampNeg (vp_nar .boolean (1 : Int32))) _ _ _ hw (lv_sub hl [2, 3, 4, 5, 6, 7, 8, 9, 1, 0] rfl) hf
          · have hf := (if_neg c22).symm.trans hf
            refine lv_iconst (v := (1 : Int32)) hx hb dX7_rings_146 (by decide) ?_
            refine lv_goto (tgt := 151) hx hb dX7_rings_147 (by decide) ?_
            refine lv_iadd hx hb dX7_rings_151 ?_
            refine lv_istore (lv' := [(8, .int (x8 + (1 : Int32))), (0, .ref q_t), (1, .int x1), (2, .int x2), (3, .int x3), (4, .int x4), (5, .int x5), (6, .int x6), (7, .int x7), (9, .int x9)]) hx hb dX7_rings_152 hl (by decide) rfl (fun ls hl => ?_)
            refine lv_iinc (v := (x9 + (1 : Int32))) (lv' := [(9, .int (x9 + (1 : Int32))), (8, .int (x8 + (1 : Int32))), (0, .ref q_t), (1, .int x1), (2, .int x2), (3, .int x3), (4, .int x4), (5, .int x5), (6, .int x6), (7, .int x7)]) hx hb dX7_rings_154 hl (k := 9) rfl rfl (by decide) rfl (fun ls hl => ?_)
            refine lv_goto (tgt := 105) hx hb dX7_rings_157 (by decide) ?_
            exact ih (x8 + (1 : Int32)) (x9 + (1 : Int32)) (upd w_t_ring x9.toNatClampNeg (vp_nar .boolean (1 : Int32))) _ _ _ hw (lv_sub hl [2, 3, 4, 5, 6, 7, 8, 9, 1, 0] rfl) hf
  have Lp91 : ∀ (x1 : Int32) (x2 : Int32) (x3 : Int32) (x4 : Int32) (x5 : Int32) (w_t_ringN : Int32) (w_t_saved : (Nat → Int32)) (K : Int32 → (Nat → Int32) → (Nat → Int32) → Option (Int32 × Int32 × (Nat → Int32) × (Nat → Int32) × (Nat → Int32))), (∀ (z6 : Int32) (z_t_ring : (Nat → Int32)) (z_t_was : (Nat → Int32)) (H : Heap) (locs : List Loc) (ls : Array Slot), Wd D A s.heap [(q_t, .inr (7, [.ref q_t_boxes, .ref q_t_next, .int t_done, .ref q_t_left, .ref q_t_pairs, .int t_many, .ref q_t_lengths, .ref q_t_riggings, .int t_told, .ref q_t_toldLength, .ref q_t_toldRigging, .ref q_t_toldRoom, .int w_t_ringN, .ref q_t_ring, .ref q_t_was, .ref q_t_saved, .ref q_t_isThere, .ref q_t_forms, .ref q_t_sizes, .ref q_t_items, .ref q_t_moved, .int t_finding])), (q_t_ring, .inl (cZ, 40, .inl z_t_ring)), (q_t_was, .inl (cZ, 40, .inl z_t_was)), (q_t_saved, .inl (cZ, 40, .inl w_t_saved))] H locs → lv_has ls 10 [(0, .ref q_t), (5, .int x5), (6, .int z6)] → K z6 z_t_ring z_t_was = some (r, o_t_ringN, o_t_ring, o_t_was, o_t_saved) → W p l e ({ frames := 2, cells := 0, slots := 0, locals := 47 } : Room) s m ([.ref q_t, .int p1, .int p2, .int p3, .int p4] : List Value).toArray below meth c H locs 0 0 (MQ below (QcI D [(q_t, .inr (7, [.ref q_t_boxes, .ref q_t_next, .int t_done, .ref q_t_left, .ref q_t_pairs, .int t_many, .ref q_t_lengths, .ref q_t_riggings, .int t_told, .ref q_t_toldLength, .ref q_t_toldRigging, .ref q_t_toldRoom, .int o_t_ringN, .ref q_t_ring, .ref q_t_was, .ref q_t_saved, .ref q_t_isThere, .ref q_t_forms, .ref q_t_sizes, .ref q_t_items, .ref q_t_moved, .int t_finding])), (q_t_ring, .inl (cZ, 40, .inl o_t_ring)), (q_t_was, .inl (cZ, 40, .inl o_t_was)), (q_t_saved, .inl (cZ, 40, .inl o_t_saved))] A r) ([.ref q_t, .int p1, .int p2, .int p3, .int p4] : List Value).toArray s 0 0 A) (F0 m 197 ls [])) → ∀ (n : Nat) (x6 : Int32) (x7 : Int32) (w_t_ring : (Nat → Int32)) (w_t_was : (Nat → Int32)) (H : Heap) (locs : List Loc) (ls : Array Slot), Wd D A s.heap [(q_t, .inr (7, [.ref q_t_boxes, .ref q_t_next, .int t_done, .ref q_t_left, .ref q_t_pairs, .int t_many, .ref q_t_lengths, .ref q_t_riggings, .int t_told, .ref q_t_toldLength, .ref q_t_toldRigging, .ref q_t_toldRoom, .int w_t_ringN, .ref q_t_ring, .ref q_t_was, .ref q_t_saved, .ref q_t_isThere, .ref q_t_forms, .ref q_t_sizes, .ref q_t_items, .ref q_t_moved, .int t_finding])), (q_t_ring, .inl (cZ, 40, .inl w_t_ring)), (q_t_was, .inl (cZ, 40, .inl w_t_was)), (q_t_saved, .inl (cZ, 40, .inl w_t_saved))] H locs → lv_has ls 10 [(0, .ref q_t), (1, .int x1), (2, .int x2), (3, .int x3), (4, .int x4), (5, .int x5), (6, .int x6), (7, .int x7)] → L_X7_rings_91 N x1 x2 x3 x4 w_t_ringN K n x6 x7 w_t_ring w_t_was = some (r, o_t_ringN, o_t_ring, o_t_was, o_t_saved) → W p l e ({ frames := 2, cells := 0, slots := 0, locals := 47 } : Room) s m ([.ref q_t, .int p1, .int p2, .int p3, .int p4] : List Value).toArray below meth c H locs 0 0 (MQ below (QcI D [(q_t, .inr (7, [.ref q_t_boxes, .ref q_t_next, .int t_done, .ref q_t_left, .ref q_t_pairs, .int t_many, .ref q_t_lengths, .ref q_t_riggings, .int t_told, .ref q_t_toldLength, .ref q_t_toldRigging, .ref q_t_toldRoom, .int o_t_ringN, .ref q_t_ring, .ref q_t_was, .ref q_t_saved, .ref q_t_isThere, .ref q_t_forms, .ref q_t_sizes, .ref q_t_items, .ref q_t_moved, .int t_finding])), (q_t_ring, .inl (cZ, 40, .inl o_t_ring)), (q_t_was, .inl (cZ, 40, .inl o_t_was)), (q_t_saved, .inl (cZ, 40, .inl o_t_saved))] A r) ([.ref q_t, .int p1, .int p2, .int p3, .int p4] : List Value).toArray s 0 0 A) (F0 m 91 ls []) := by
    intro x1 x2 x3 x4 x5 w_t_ringN w_t_saved K hKx n
    induction n with
    | zero =>
      intro x6 x7 w_t_ring w_t_was H locs ls hw hl hf
      rw [L_X7_rings_91] at hf
      cases hf
    | succ n ih =>
      intro x6 x7 w_t_ring w_t_was H locs ls hw hl hf
      rw [L_X7_rings_91] at hf
      refine lv_iload hx hb dX7_rings_91 (lv_at hl 7 rfl) ?_
      refine lv_iconst (v := (1 : Int32)) hx hb dX7_rings_93 (by decide) ?_
      refine lv_iload_n hx hb dX7_rings_94 rfl (lv_at hl 1 rfl) ?_
      refine lv_ishl hx hb dX7_rings_95 ?_
      refine lv_icmp_ge (tgt := 197) hx hb dX7_rings_96 (by decide) (fun c14 => ?_) (fun c14 => ?_)
      · have hf := (if_pos c14).symm.trans hf
        exact hKx x6 w_t_ring w_t_was _ _ _ hw (lv_sub hl [0, 5, 6] rfl) hf
      · have hf := (if_neg c14).symm.trans hf
        refine lv_iconst (v := (0 : Int32)) hx hb dX7_rings_99 (by decide) ?_
        refine lv_istore (lv' := [(8, .int (0 : Int32)), (0, .ref q_t), (1, .int x1), (2, .int x2), (3, .int x3), (4, .int x4), (5, .int x5), (6, .int x6), (7, .int x7)]) hx hb dX7_rings_100 hl (by decide) rfl (fun ls hl => ?_)
        refine lv_iconst (v := (0 : Int32)) hx hb dX7_rings_102 (by decide) ?_
        refine lv_istore (lv' := [(9, .int (0 : Int32)), (8, .int (0 : Int32)), (0, .ref q_t), (1, .int x1), (2, .int x2), (3, .int x3), (4, .int x4), (5, .int x5), (6, .int x6), (7, .int x7)]) hx hb dX7_rings_103 hl (by decide) rfl (fun ls hl => ?_)
        refine Lp105 x1 x2 x3 x4 x5 x6 x7 w_t_ringN w_t_was w_t_saved _ (fun y23 u24 H locs ls hw hl hf => ?_) N (0 : Int32) (0 : Int32) w_t_ring _ _ _ hw (lv_sub hl [2, 3, 4, 5, 6, 7, 8, 9, 1, 0] rfl) hf
        refine lv_iload hx hb dX7_rings_160 (lv_at hl 8 rfl) ?_
        refine lv_iload_n hx hb dX7_rings_162 rfl (lv_at hl 2 rfl) ?_
        refine lv_icmp_ne (tgt := 191) hx hb dX7_rings_163 (by decide) (fun c25 => ?_) (fun c25 => ?_)
        · have hf := (if_neg c25).symm.trans hf
          refine lv_iinc (v := (x7 + (1 : Int32))) (lv' := [(7, .int (x7 + (1 : Int32))), (0, .ref q_t), (1, .int x1), (2, .int x2), (3, .int x3), (4, .int x4), (5, .int x5), (6, .int x6), (8, .int y23)]) hx hb dX7_rings_191 hl (k := 7) rfl rfl (by decide) rfl (fun ls hl => ?_)
          refine lv_goto (tgt := 91) hx hb dX7_rings_194 (by decide) ?_
          exact ih x6 (x7 + (1 : Int32)) u24 w_t_was _ _ _ hw (lv_sub hl [1, 2, 3, 4, 5, 6, 7, 0] rfl) hf
        · have hf := (if_pos c25).symm.trans hf
          refine lv_iload hx hb dX7_rings_166 (lv_at hl 6 rfl) ?_
          refine lv_iload hx hb dX7_rings_168 (lv_at hl 4 rfl) ?_
          refine lv_if_eq (tgt := 183) hx hb dX7_rings_170 (by decide) (fun c26 => ?_) (fun c26 => ?_)
          · have hf := (if_pos c26).symm.trans hf
            refine lv_iconst (v := (1 : Int32)) hx hb dX7_rings_183 (by decide) ?_
            refine lv_goto (tgt := 188) hx hb dX7_rings_184 (by decide) ?_
            refine lv_iadd hx hb dX7_rings_188 ?_
            refine lv_istore (lv' := [(6, .int (x6 + (1 : Int32))), (0, .ref q_t), (1, .int x1), (2, .int x2), (3, .int x3), (4, .int x4), (5, .int x5), (7, .int x7), (8, .int y23)]) hx hb dX7_rings_189 hl (by decide) rfl (fun ls hl => ?_)
            refine lv_iinc (v := (x7 + (1 : Int32))) (lv' := [(7, .int (x7 + (1 : Int32))), (6, .int (x6 + (1 : Int32))), (0, .ref q_t), (1, .int x1), (2, .int x2), (3, .int x3), (4, .int x4), (5, .int x5), (8, .int y23)]) hx hb dX7_rings_191 hl (k := 7) rfl rfl (by decide) rfl (fun ls hl => ?_)
            refine lv_goto (tgt := 91) hx hb dX7_rings_194 (by decide) ?_
            exact ih (x6 + (1 : Int32)) (x7 + (1 : Int32)) u24 w_t_was _ _ _ hw (lv_sub hl [2, 3, 4, 5, 6, 7, 1, 0] rfl) hf
          · have hf := (if_neg c26).symm.trans hf
            refine lv_aload_n hx hb dX7_rings_173 rfl (lv_at hl 0 rfl) ?_
            refine lv_iload_n hx hb dX7_rings_174 rfl (lv_at hl 3 rfl) ?_
            obtain ⟨r27, u28, u29, h30, hf⟩ := bd3_some hf
            refine cl_i (wr := [(q_t_saved, .inl (cZ, 40, .inl w_t_saved))]) (ws' := [(q_t, .inr (7, [.ref q_t_boxes, .ref q_t_next, .int t_done, .ref q_t_left, .ref q_t_pairs, .int t_many, .ref q_t_lengths, .ref q_t_riggings, .int t_told, .ref q_t_toldLength, .ref q_t_toldRigging, .ref q_t_toldRoom, .int w_t_ringN, .ref q_t_ring, .ref q_t_was, .ref q_t_saved, .ref q_t_isThere, .ref q_t_forms, .ref q_t_sizes, .ref q_t_items, .ref q_t_moved, .int t_finding])), (q_t_ring, .inl (cZ, 40, .inl u28)), (q_t_was, .inl (cZ, 40, .inl u29)), (q_t_saved, .inl (cZ, 40, .inl w_t_saved))]) hA hw [0, 1, 2] [3] [1, 2, 3, 0] rfl rfl rfl (by decide) rfl rfl (va_runV (As := [.int x3]) (rest := [.int x6]) S (c_X7_periodOf l D cI cZ cJ cO _ q_t q_t_boxes q_t_next q_t_left q_t_pairs q_t_lengths q_t_riggings q_t_toldLength q_t_toldRigging q_t_toldRoom q_t_ring q_t_was q_t_saved q_t_isThere q_t_forms q_t_sizes q_t_items q_t_moved N x3 t_done t_many t_told w_t_ringN t_finding u24 w_t_was r27 u28 u29 h30) (cwV 1 hts gX7_rings_X7_periodOf rfl rfl rfl (by decide +kernel) ⟨Nat.le_of_ble_eq_true rfl, Nat.le_of_ble_eq_true rfl⟩) (pre_V hK hN hw [0, 1, 2] rfl rfl (C := RX7) (T := TX7) (N := 22) (ci := 7) (q0 := 0) rfl rfl) rfl rfl hl.1 rfl (lv_room (Nat.le_of_ble_eq_true rfl)) dX7_rings_175 ⟨Nat.zero_le _, Nat.zero_le _⟩) (fun H locs hw => ?_)
            refine lv_iload hx hb dX7_rings_178 (lv_at hl 4 rfl) ?_
            refine lv_icmp_ne (tgt := 187) hx hb dX7_rings_180 (by decide) (fun c31 => ?_) (fun c31 => ?_)
            · have hf := (if_neg c31).symm.trans hf
              refine lv_iconst (v := (0 : Int32)) hx hb dX7_rings_187 (by decide) ?_
              refine lv_iadd hx hb dX7_rings_188 ?_
              refine lv_istore (lv' := [(6, .int (x6 + (0 : Int32))), (0, .ref q_t), (1, .int x1), (2, .int x2), (3, .int x3), (4, .int x4), (5, .int x5), (7, .int x7), (8, .int y23)]) hx hb dX7_rings_189 hl (by decide) rfl (fun ls hl => ?_)
              refine lv_iinc (v := (x7 + (1 : Int32))) (lv' := [(7, .int (x7 + (1 : Int32))), (6, .int (x6 + (0 : Int32))), (0, .ref q_t), (1, .int x1), (2, .int x2), (3, .int x3), (4, .int x4), (5, .int x5), (8, .int y23)]) hx hb dX7_rings_191 hl (k := 7) rfl rfl (by decide) rfl (fun ls hl => ?_)
              refine lv_goto (tgt := 91) hx hb dX7_rings_194 (by decide) ?_
              exact ih (x6 + (0 : Int32)) (x7 + (1 : Int32)) u28 u29 _ _ _ hw (lv_sub hl [2, 3, 4, 5, 6, 7, 1, 0] rfl) hf
            · have hf := (if_pos c31).symm.trans hf
              refine lv_iconst (v := (1 : Int32)) hx hb dX7_rings_183 (by decide) ?_
              refine lv_goto (tgt := 188) hx hb dX7_rings_184 (by decide) ?_
              refine lv_iadd hx hb dX7_rings_188 ?_
              refine lv_istore (lv' := [(6, .int (x6 + (1 : Int32))), (0, .ref q_t), (1, .int x1), (2, .int x2), (3, .int x3), (4, .int x4), (5, .int x5), (7, .int x7), (8, .int y23)]) hx hb dX7_rings_189 hl (by decide) rfl (fun ls hl => ?_)
              refine lv_iinc (v := (x7 + (1 : Int32))) (lv' := [(7, .int (x7 + (1 : Int32))), (6, .int (x6 + (1 : Int32))), (0, .ref q_t), (1, .int x1), (2, .int x2), (3, .int x3), (4, .int x4), (5, .int x5), (8, .int y23)]) hx hb dX7_rings_191 hl (k := 7) rfl rfl (by decide) rfl (fun ls hl => ?_)
              refine lv_goto (tgt := 91) hx hb dX7_rings_194 (by decide) ?_
              exact ih (x6 + (1 : Int32)) (x7 + (1 : Int32)) u28 u29 _ _ _ hw (lv_sub hl [2, 3, 4, 5, 6, 7, 1, 0] rfl) hf
  have Lp206 : ∀ (x6 : Int32) (w_t_ringN : Int32) (w_t_was : (Nat → Int32)) (w_t_saved : (Nat → Int32)) (K : (Nat → Int32) → Option (Int32 × Int32 × (Nat → Int32) × (Nat → Int32) × (Nat → Int32))), (∀ (z_t_ring : (Nat → Int32)) (H : Heap) (locs : List Loc) (ls : Array Slot), Wd D A s.heap [(q_t, .inr (7, [.ref q_t_boxes, .ref q_t_next, .int t_done, .ref q_t_left, .ref q_t_pairs, .int t_many, .ref q_t_lengths, .ref q_t_riggings, .int t_told, .ref q_t_toldLength, .ref q_t_toldRigging, .ref q_t_toldRoom, .int w_t_ringN, .ref q_t_ring, .ref q_t_was, .ref q_t_saved, .ref q_t_isThere, .ref q_t_forms, .ref q_t_sizes, .ref q_t_items, .ref q_t_moved, .int t_finding])), (q_t_ring, .inl (cZ, 40, .inl z_t_ring)), (q_t_was, .inl (cZ, 40, .inl w_t_was)), (q_t_saved, .inl (cZ, 40, .inl w_t_saved))] H locs → lv_has ls 10 [(6, .int x6)] → K z_t_ring = some (r, o_t_ringN, o_t_ring, o_t_was, o_t_saved) → W p l e ({ frames := 2, cells := 0, slots := 0, locals := 47 } : Room) s m ([.ref q_t, .int p1, .int p2, .int p3, .int p4] : List Value).toArray below meth c H locs 0 0 (MQ below (QcI D [(q_t, .inr (7, [.ref q_t_boxes, .ref q_t_next, .int t_done, .ref q_t_left, .ref q_t_pairs, .int t_many, .ref q_t_lengths, .ref q_t_riggings, .int t_told, .ref q_t_toldLength, .ref q_t_toldRigging, .ref q_t_toldRoom, .int o_t_ringN, .ref q_t_ring, .ref q_t_was, .ref q_t_saved, .ref q_t_isThere, .ref q_t_forms, .ref q_t_sizes, .ref q_t_items, .ref q_t_moved, .int t_finding])), (q_t_ring, .inl (cZ, 40, .inl o_t_ring)), (q_t_was, .inl (cZ, 40, .inl o_t_was)), (q_t_saved, .inl (cZ, 40, .inl o_t_saved))] A r) ([.ref q_t, .int p1, .int p2, .int p3, .int p4] : List Value).toArray s 0 0 A) (F0 m 233 ls [])) → ∀ (n : Nat) (x7 : Int32) (w_t_ring : (Nat → Int32)) (H : Heap) (locs : List Loc) (ls : Array Slot), Wd D A s.heap [(q_t, .inr (7, [.ref q_t_boxes, .ref q_t_next, .int t_done, .ref q_t_left, .ref q_t_pairs, .int t_many, .ref q_t_lengths, .ref q_t_riggings, .int t_told, .ref q_t_toldLength, .ref q_t_toldRigging, .ref q_t_toldRoom, .int w_t_ringN, .ref q_t_ring, .ref q_t_was, .ref q_t_saved, .ref q_t_isThere, .ref q_t_forms, .ref q_t_sizes, .ref q_t_items, .ref q_t_moved, .int t_finding])), (q_t_ring, .inl (cZ, 40, .inl w_t_ring)), (q_t_was, .inl (cZ, 40, .inl w_t_was)), (q_t_saved, .inl (cZ, 40, .inl w_t_saved))] H locs → lv_has ls 10 [(0, .ref q_t), (6, .int x6), (7, .int x7)] → L_X7_rings_206 N w_t_saved K n x7 w_t_ring = some (r, o_t_ringN, o_t_ring, o_t_was, o_t_saved) → W p l e ({ frames := 2, cells := 0, slots := 0, locals := 47 } : Room) s m ([.ref q_t, .int p1, .int p2, .int p3, .int p4] : List Value).toArray below meth c H locs 0 0 (MQ below (QcI D [(q_t, .inr (7, [.ref q_t_boxes, .ref q_t_next, .int t_done, .ref q_t_left, .ref q_t_pairs, .int t_many, .ref q_t_lengths, .ref q_t_riggings, .int t_told, .ref q_t_toldLength, .ref q_t_toldRigging, .ref q_t_toldRoom, .int o_t_ringN, .ref q_t_ring, .ref q_t_was, .ref q_t_saved, .ref q_t_isThere, .ref q_t_forms, .ref q_t_sizes, .ref q_t_items, .ref q_t_moved, .int t_finding])), (q_t_ring, .inl (cZ, 40, .inl o_t_ring)), (q_t_was, .inl (cZ, 40, .inl o_t_was)), (q_t_saved, .inl (cZ, 40, .inl o_t_saved))] A r) ([.ref q_t, .int p1, .int p2, .int p3, .int p4] : List Value).toArray s 0 0 A) (F0 m 206 ls []) := by
    intro x6 w_t_ringN w_t_was w_t_saved K hKx n
    induction n with
    | zero =>
      intro x7 w_t_ring H locs ls hw hl hf
      rw [L_X7_rings_206] at hf
      cases hf
    | succ n ih =>
      intro x7 w_t_ring H locs ls hw hl hf
      rw [L_X7_rings_206] at hf
      refine lv_iload hx hb dX7_rings_206 (lv_at hl 2 rfl) ?_
      refine lv_bipush (v := (40 : Int32)) hx hb dX7_rings_208 (by decide) ?_
      refine lv_icmp_ge (tgt := 233) hx hb dX7_rings_210 (by decide) (fun c35 => ?_) (fun c35 => ?_)
      · have hf := (if_pos c35).symm.trans hf
        exact hKx w_t_ring _ _ _ hw (lv_sub hl [1] rfl) hf
      · have hf := (if_neg c35).symm.trans hf
        refine lv_aload_n hx hb dX7_rings_213 rfl (lv_at hl 0 rfl) ?_
        refine g_get (ci := 7) (C := RX7) (T := TX7) (N := 22) S hinX7 hK hw 0 13 k42 dX7_rings_214 rfl rfl (by decide) rfl ?_
        refine lv_iload hx hb dX7_rings_217 (lv_at hl 2 rfl) ?_
        refine lv_aload_n hx hb dX7_rings_219 rfl (lv_at hl 0 rfl) ?_
        refine g_get (ci := 7) (C := RX7) (T := TX7) (N := 22) S hinX7 hK hw 0 15 k48 dX7_rings_220 rfl rfl (by decide) rfl ?_
        refine lv_iload hx hb dX7_rings_223 (lv_at hl 2 rfl) ?_
        obtain ⟨b36, hf⟩ := ck_some hf
        refine g_zald S hK hw 3 1 b36 dX7_rings_225 rfl rfl ?_
        obtain ⟨b37, hf⟩ := ck_some hf
        refine g_zast (ws' := [(q_t, .inr (7, [.ref q_t_boxes, .ref q_t_next, .int t_done, .ref q_t_left, .ref q_t_pairs, .int t_many, .ref q_t_lengths, .ref q_t_riggings, .int t_told, .ref q_t_toldLength, .ref q_t_toldRigging, .ref q_t_toldRoom, .int w_t_ringN, .ref q_t_ring, .ref q_t_was, .ref q_t_saved, .ref q_t_isThere, .ref q_t_forms, .ref q_t_sizes, .ref q_t_items, .ref q_t_moved, .int t_finding])), (q_t_ring, .inl (cZ, 40, .inl (upd w_t_ring x7.toNatClampNeg (vp_nar .boolean (w_t_saved x7.toNatClampNeg))))), (q_t_was, .inl (cZ, 40, .inl w_t_was)), (q_t_saved, .inl (cZ, 40, .inl w_t_saved))]) S hK hw 1 1 b37 dX7_rings_226 rfl rfl rfl (fun H locs hw => ?_)
        refine lv_iinc (v := (x7 + (1 : Int32))) (lv' := [(7, .int (x7 + (1 : Int32))), (0, .ref q_t), (6, .int x6)]) hx hb dX7_rings_227 hl (k := 2) rfl rfl (by decide) rfl (fun ls hl => ?_)
        refine lv_goto (tgt := 206) hx hb dX7_rings_230 (by decide) ?_
        exact ih (x7 + (1 : Int32)) (upd w_t_ring x7.toNatClampNeg (vp_nar .boolean (w_t_saved x7.toNatClampNeg))) _ _ _ hw (lv_sub hl [1, 2, 0] rfl) hf
  unfold f_X7_rings at hf
  refine lv_iload_n hx hb dX7_rings_0 rfl (lv_at hl 1 rfl) ?_
  refine lv_iconst (v := (1 : Int32)) hx hb dX7_rings_1 (by decide) ?_
  refine lv_bipush (v := (12 : Int32)) hx hb dX7_rings_2 (by decide) ?_
  obtain ⟨r1, h2, hf⟩ := bd1_some hf
  refine cl_i (wr := [(q_t, .inr (7, [.ref q_t_boxes, .ref q_t_next, .int t_done, .ref q_t_left, .ref q_t_pairs, .int t_many, .ref q_t_lengths, .ref q_t_riggings, .int t_told, .ref q_t_toldLength, .ref q_t_toldRigging, .ref q_t_toldRoom, .int t_ringN, .ref q_t_ring, .ref q_t_was, .ref q_t_saved, .ref q_t_isThere, .ref q_t_forms, .ref q_t_sizes, .ref q_t_items, .ref q_t_moved, .int t_finding])), (q_t_ring, .inl (cZ, 40, .inl t_ring)), (q_t_was, .inl (cZ, 40, .inl t_was)), (q_t_saved, .inl (cZ, 40, .inl t_saved))]) (ws' := [(q_t, .inr (7, [.ref q_t_boxes, .ref q_t_next, .int t_done, .ref q_t_left, .ref q_t_pairs, .int t_many, .ref q_t_lengths, .ref q_t_riggings, .int t_told, .ref q_t_toldLength, .ref q_t_toldRigging, .ref q_t_toldRoom, .int t_ringN, .ref q_t_ring, .ref q_t_was, .ref q_t_saved, .ref q_t_isThere, .ref q_t_forms, .ref q_t_sizes, .ref q_t_items, .ref q_t_moved, .int t_finding])), (q_t_ring, .inl (cZ, 40, .inl t_ring)), (q_t_was, .inl (cZ, 40, .inl t_was)), (q_t_saved, .inl (cZ, 40, .inl t_saved))]) hA hw [] [0, 1, 2, 3] [0, 1, 2, 3] rfl rfl rfl (by decide) rfl rfl (va_runS (As := [.int p1, .int (1 : Int32), .int (12 : Int32)]) (rest := []) S (c_X7_in l D cI cZ cJ cO _ N p1 (1 : Int32) (12 : Int32) r1 h2) (va_cwS 3 hts gX7_rings_X7_in rfl rfl rfl (by decide +kernel) ⟨Nat.le_of_ble_eq_true rfl, Nat.le_of_ble_eq_true rfl⟩) (pre_S hK hN hw [] rfl rfl) rfl rfl hl.1 rfl (lv_room (Nat.le_of_ble_eq_true rfl)) dX7_rings_4 ⟨Nat.zero_le _, Nat.zero_le _⟩) (fun H locs hw => ?_)
  refine lv_if_eq (tgt := 41) hx hb dX7_rings_7 (by decide) (fun c3 => ?_) (fun c3 => ?_)
  · have hf := (if_pos c3).symm.trans hf
    refine lv_bipush (v := (-2 : Int32)) hx hb dX7_rings_41 (by decide) ?_
    obtain ⟨rfl, rfl, rfl, rfl, rfl⟩ := pr5 (Option.some.inj hf)
    exact rt_i S hr hlk hw dX7_rings_43
  · have hf := (if_neg c3).symm.trans hf
    refine lv_iload_n hx hb dX7_rings_10 rfl (lv_at hl 2 rfl) ?_
    refine lv_if_lt (tgt := 41) hx hb dX7_rings_11 (by decide) (fun c4 => ?_) (fun c4 => ?_)
    · have hf := (if_pos c4).symm.trans hf
      refine lv_bipush (v := (-2 : Int32)) hx hb dX7_rings_41 (by decide) ?_
      obtain ⟨rfl, rfl, rfl, rfl, rfl⟩ := pr5 (Option.some.inj hf)
      exact rt_i S hr hlk hw dX7_rings_43
    · have hf := (if_neg c4).symm.trans hf
      refine lv_ldc2 (v := (2 : Int64)) hx hb S.2.2.2.1 (hts (.constantLong RX7 121 (2)) (by decide +kernel)) dX7_rings_14 ?_
      refine lv_iload_n hx hb dX7_rings_17 rfl (lv_at hl 2 rfl) ?_
      refine lv_i2l (v := p2.toInt64) hx hb dX7_rings_18 rfl ?_
      refine lv_lmul hx hb dX7_rings_19 ?_
      refine lv_iload_n hx hb dX7_rings_20 rfl (lv_at hl 1 rfl) ?_
      refine lv_i2l (v := p1.toInt64) hx hb dX7_rings_21 rfl ?_
      refine W.lcmp hx hb dX7_rings_22 ?_
      refine lv_if_ge (tgt := 41) hx hb dX7_rings_23 (by decide) (fun c5 => ?_) (fun c5 => ?_)
      · have hf := (if_pos c5).symm.trans hf
        refine lv_bipush (v := (-2 : Int32)) hx hb dX7_rings_41 (by decide) ?_
        obtain ⟨rfl, rfl, rfl, rfl, rfl⟩ := pr5 (Option.some.inj hf)
        exact rt_i S hr hlk hw dX7_rings_43
      · have hf := (if_neg c5).symm.trans hf
        refine lv_iload_n hx hb dX7_rings_26 rfl (lv_at hl 3 rfl) ?_
        refine lv_iconst (v := (1 : Int32)) hx hb dX7_rings_27 (by decide) ?_
        refine lv_bipush (v := (50 : Int32)) hx hb dX7_rings_28 (by decide) ?_
        obtain ⟨r6, h7, hf⟩ := bd1_some hf
        refine cl_i (wr := [(q_t, .inr (7, [.ref q_t_boxes, .ref q_t_next, .int t_done, .ref q_t_left, .ref q_t_pairs, .int t_many, .ref q_t_lengths, .ref q_t_riggings, .int t_told, .ref q_t_toldLength, .ref q_t_toldRigging, .ref q_t_toldRoom, .int t_ringN, .ref q_t_ring, .ref q_t_was, .ref q_t_saved, .ref q_t_isThere, .ref q_t_forms, .ref q_t_sizes, .ref q_t_items, .ref q_t_moved, .int t_finding])), (q_t_ring, .inl (cZ, 40, .inl t_ring)), (q_t_was, .inl (cZ, 40, .inl t_was)), (q_t_saved, .inl (cZ, 40, .inl t_saved))]) (ws' := [(q_t, .inr (7, [.ref q_t_boxes, .ref q_t_next, .int t_done, .ref q_t_left, .ref q_t_pairs, .int t_many, .ref q_t_lengths, .ref q_t_riggings, .int t_told, .ref q_t_toldLength, .ref q_t_toldRigging, .ref q_t_toldRoom, .int t_ringN, .ref q_t_ring, .ref q_t_was, .ref q_t_saved, .ref q_t_isThere, .ref q_t_forms, .ref q_t_sizes, .ref q_t_items, .ref q_t_moved, .int t_finding])), (q_t_ring, .inl (cZ, 40, .inl t_ring)), (q_t_was, .inl (cZ, 40, .inl t_was)), (q_t_saved, .inl (cZ, 40, .inl t_saved))]) hA hw [] [0, 1, 2, 3] [0, 1, 2, 3] rfl rfl rfl (by decide) rfl rfl (va_runS (As := [.int p3, .int (1 : Int32), .int (50 : Int32)]) (rest := []) S (c_X7_in l D cI cZ cJ cO _ N p3 (1 : Int32) (50 : Int32) r6 h7) (va_cwS 3 hts gX7_rings_X7_in rfl rfl rfl (by decide +kernel) ⟨Nat.le_of_ble_eq_true rfl, Nat.le_of_ble_eq_true rfl⟩) (pre_S hK hN hw [] rfl rfl) rfl rfl hl.1 rfl (lv_room (Nat.le_of_ble_eq_true rfl)) dX7_rings_30 ⟨Nat.zero_le _, Nat.zero_le _⟩) (fun H locs hw => ?_)
        refine lv_if_eq (tgt := 41) hx hb dX7_rings_33 (by decide) (fun c8 => ?_) (fun c8 => ?_)
        · have hf := (if_pos c8).symm.trans hf
          refine lv_bipush (v := (-2 : Int32)) hx hb dX7_rings_41 (by decide) ?_
          obtain ⟨rfl, rfl, rfl, rfl, rfl⟩ := pr5 (Option.some.inj hf)
          exact rt_i S hr hlk hw dX7_rings_43
        · have hf := (if_neg c8).symm.trans hf
          refine lv_iload hx hb dX7_rings_36 (lv_at hl 4 rfl) ?_
          refine lv_if_ge (tgt := 44) hx hb dX7_rings_38 (by decide) (fun c9 => ?_) (fun c9 => ?_)
          · have hf := (if_pos c9).symm.trans hf
            refine lv_aload_n hx hb dX7_rings_44 rfl (lv_at hl 0 rfl) ?_
            refine g_get (ci := 7) (C := RX7) (T := TX7) (N := 22) S hinX7 hK hw 0 12 k38 dX7_rings_45 rfl rfl (by decide) rfl ?_
            refine lv_istore (lv' := [(5, .int t_ringN), (0, .ref q_t), (1, .int p1), (2, .int p2), (3, .int p3), (4, .int p4)]) hx hb dX7_rings_48 hl (by decide) rfl (fun ls hl => ?_)
            refine lv_iconst (v := (0 : Int32)) hx hb dX7_rings_50 (by decide) ?_
            refine lv_istore (lv' := [(6, .int (0 : Int32)), (5, .int t_ringN), (0, .ref q_t), (1, .int p1), (2, .int p2), (3, .int p3), (4, .int p4)]) hx hb dX7_rings_51 hl (by decide) rfl (fun ls hl => ?_)
            refine Lp53 p1 p2 p3 p4 t_ringN t_ringN t_ring t_was _ (fun u13 H locs ls hw hl hf => ?_) N (0 : Int32) t_saved _ _ _ hw (lv_sub hl [2, 3, 4, 5, 6, 1, 0] rfl) hf
            refine lv_aload_n hx hb dX7_rings_80 rfl (lv_at hl 0 rfl) ?_
            refine lv_iload_n hx hb dX7_rings_81 rfl (lv_at hl 1 rfl) ?_
            refine g_put (ci := 7) (C := RX7) (T := TX7) (N := 22) (ws' := [(q_t, .inr (7, [.ref q_t_boxes, .ref q_t_next, .int t_done, .ref q_t_left, .ref q_t_pairs, .int t_many, .ref q_t_lengths, .ref q_t_riggings, .int t_told, .ref q_t_toldLength, .ref q_t_toldRigging, .ref q_t_toldRoom, .int p1, .ref q_t_ring, .ref q_t_was, .ref q_t_saved, .ref q_t_isThere, .ref q_t_forms, .ref q_t_sizes, .ref q_t_items, .ref q_t_moved, .int t_finding])), (q_t_ring, .inl (cZ, 40, .inl t_ring)), (q_t_was, .inl (cZ, 40, .inl t_was)), (q_t_saved, .inl (cZ, 40, .inl u13))]) S hinX7 tyX7 tyX7_ok nmX7 hK hw 0 12 k38 dX7_rings_82 rfl rfl (by decide) rfl rfl rfl (Nat.le_of_ble_eq_true rfl) rfl (fun H locs hw => ?_)
            refine lv_iconst (v := (0 : Int32)) hx hb dX7_rings_85 (by decide) ?_
            refine lv_istore (lv' := [(6, .int (0 : Int32)), (0, .ref q_t), (1, .int p1), (2, .int p2), (3, .int p3), (4, .int p4), (5, .int t_ringN)]) hx hb dX7_rings_86 hl (by decide) rfl (fun ls hl => ?_)
            refine lv_iconst (v := (0 : Int32)) hx hb dX7_rings_88 (by decide) ?_
            refine lv_istore (lv' := [(7, .int (0 : Int32)), (6, .int (0 : Int32)), (0, .ref q_t), (1, .int p1), (2, .int p2), (3, .int p3), (4, .int p4), (5, .int t_ringN)]) hx hb dX7_rings_89 hl (by decide) rfl (fun ls hl => ?_)
            refine Lp91 p1 p2 p3 p4 t_ringN p1 u13 _ (fun y32 u33 u34 H locs ls hw hl hf => ?_) N (0 : Int32) (0 : Int32) t_ring t_was _ _ _ hw (lv_sub hl [2, 3, 4, 5, 6, 7, 1, 0] rfl) hf
            refine lv_aload_n hx hb dX7_rings_197 rfl (lv_at hl 0 rfl) ?_
            refine lv_iload hx hb dX7_rings_198 (lv_at hl 1 rfl) ?_
            refine g_put (ci := 7) (C := RX7) (T := TX7) (N := 22) (ws' := [(q_t, .inr (7, [.ref q_t_boxes, .ref q_t_next, .int t_done, .ref q_t_left, .ref q_t_pairs, .int t_many, .ref q_t_lengths, .ref q_t_riggings, .int t_told, .ref q_t_toldLength, .ref q_t_toldRigging, .ref q_t_toldRoom, .int t_ringN, .ref q_t_ring, .ref q_t_was, .ref q_t_saved, .ref q_t_isThere, .ref q_t_forms, .ref q_t_sizes, .ref q_t_items, .ref q_t_moved, .int t_finding])), (q_t_ring, .inl (cZ, 40, .inl u33)), (q_t_was, .inl (cZ, 40, .inl u34)), (q_t_saved, .inl (cZ, 40, .inl u13))]) S hinX7 tyX7 tyX7_ok nmX7 hK hw 0 12 k38 dX7_rings_200 rfl rfl (by decide) rfl rfl rfl (Nat.le_of_ble_eq_true rfl) rfl (fun H locs hw => ?_)
            refine lv_iconst (v := (0 : Int32)) hx hb dX7_rings_203 (by decide) ?_
            refine lv_istore (lv' := [(7, .int (0 : Int32)), (0, .ref q_t), (5, .int t_ringN), (6, .int y32)]) hx hb dX7_rings_204 hl (by decide) rfl (fun ls hl => ?_)
            refine Lp206 y32 t_ringN u34 u13 _ (fun u38 H locs ls hw hl hf => ?_) N (0 : Int32) u33 _ _ _ hw (lv_sub hl [1, 3, 0] rfl) hf
            refine lv_iload hx hb dX7_rings_233 (lv_at hl 0 rfl) ?_
            obtain ⟨rfl, rfl, rfl, rfl, rfl⟩ := pr5 (Option.some.inj hf)
            exact rt_i S hr hlk hw dX7_rings_235
          · have hf := (if_neg c9).symm.trans hf
            refine lv_bipush (v := (-2 : Int32)) hx hb dX7_rings_41 (by decide) ?_
            obtain ⟨rfl, rfl, rfl, rfl, rfl⟩ := pr5 (Option.some.inj hf)
            exact rt_i S hr hlk hw dX7_rings_43

def f_X7_meets (_ : Nat) (p1 : Int32) (t_finding : Int32) : Option (Int32 × Int32) :=
  (some (((-10 : Int32) - p1), p1))

set_option maxHeartbeats 4000000 in
set_option maxRecDepth 100000 in
theorem c_X7_meets (l : Launch) (D : va_G) (cI cZ cJ cO : ClassId) (sz : Nat) (q_t q_t_boxes q_t_next q_t_left q_t_pairs q_t_lengths q_t_riggings q_t_toldLength q_t_toldRigging q_t_toldRoom q_t_ring q_t_was q_t_saved q_t_isThere q_t_forms q_t_sizes q_t_items q_t_moved : Nat) (N : Nat) (p1 : Int32) (t_done : Int32) (t_many : Int32) (t_told : Int32) (t_ringN : Int32) (t_finding : Int32) (r : Int32) (o_t_finding : Int32) (hf : f_X7_meets N p1 t_finding = some (r, o_t_finding)) : Met l yX7_meets wsX7_meets ({ frames := 0, cells := 0, slots := 0, locals := 0 }) (PreC D (TY cI cZ cJ cO) [.ref q_t, .int p1] [(q_t, .inr (7, [.ref q_t_boxes, .ref q_t_next, .int t_done, .ref q_t_left, .ref q_t_pairs, .int t_many, .ref q_t_lengths, .ref q_t_riggings, .int t_told, .ref q_t_toldLength, .ref q_t_toldRigging, .ref q_t_toldRoom, .int t_ringN, .ref q_t_ring, .ref q_t_was, .ref q_t_saved, .ref q_t_isThere, .ref q_t_forms, .ref q_t_sizes, .ref q_t_items, .ref q_t_moved, .int t_finding]))] sz) (QcI D [(q_t, .inr (7, [.ref q_t_boxes, .ref q_t_next, .int t_done, .ref q_t_left, .ref q_t_pairs, .int t_many, .ref q_t_lengths, .ref q_t_riggings, .int t_told, .ref q_t_toldLength, .ref q_t_toldRigging, .ref q_t_toldRoom, .int t_ringN, .ref q_t_ring, .ref q_t_was, .ref q_t_saved, .ref q_t_isThere, .ref q_t_forms, .ref q_t_sizes, .ref q_t_items, .ref q_t_moved, .int o_t_finding]))] (va_A [(q_t, .inr (7, [.ref q_t_boxes, .ref q_t_next, .int t_done, .ref q_t_left, .ref q_t_pairs, .int t_many, .ref q_t_lengths, .ref q_t_riggings, .int t_told, .ref q_t_toldLength, .ref q_t_toldRigging, .ref q_t_toldRoom, .int t_ringN, .ref q_t_ring, .ref q_t_was, .ref q_t_saved, .ref q_t_isThere, .ref q_t_forms, .ref q_t_sizes, .ref q_t_items, .ref q_t_moved, .int t_finding]))] sz) r) 0 0 (va_A [(q_t, .inr (7, [.ref q_t_boxes, .ref q_t_next, .int t_done, .ref q_t_left, .ref q_t_pairs, .int t_many, .ref q_t_lengths, .ref q_t_riggings, .int t_told, .ref q_t_toldLength, .ref q_t_toldRigging, .ref q_t_toldRoom, .int t_ringN, .ref q_t_ring, .ref q_t_was, .ref q_t_saved, .ref q_t_isThere, .ref q_t_forms, .ref q_t_sizes, .ref q_t_items, .ref q_t_moved, .int t_finding]))] sz) := by
  refine ctr (cc := cX7_meets) (maxL := 2) (ret := (some .int)) (by decide) rfl (Nat.le_of_ble_eq_true rfl) ?_
  intro p e s m below meth c S hr hlk hnm hK hN hsz hA hw ls hl
  generalize va_A [(q_t, .inr (7, [.ref q_t_boxes, .ref q_t_next, .int t_done, .ref q_t_left, .ref q_t_pairs, .int t_many, .ref q_t_lengths, .ref q_t_riggings, .int t_told, .ref q_t_toldLength, .ref q_t_toldRigging, .ref q_t_toldRoom, .int t_ringN, .ref q_t_ring, .ref q_t_was, .ref q_t_saved, .ref q_t_isThere, .ref q_t_forms, .ref q_t_sizes, .ref q_t_items, .ref q_t_moved, .int t_finding]))] sz = A at hA hw ⊢
  have S : CallFix p m c cX7_meets 2 s ([.ref q_t, .int p1] : List Value).toArray wsX7_meets RX7 := S
  have hx := S.1
  have hb := S.2.1
  have hts := S.2.2.2.2
  have hl : lv_has ls 2 [(0, .ref q_t), (1, .int p1)] := hl
  have hinX7 : ∀ w ∈ u_ws RX7 TX7 22, w ∈ wsX7_meets := by decide +kernel
  have k123 : Cond.fieldLink RX7 123 "BallBoxesModel" "finding" "I" ∈ wsX7_meets := by decide +kernel
  unfold f_X7_meets at hf
  refine lv_aload_n hx hb dX7_meets_0 rfl (lv_at hl 0 rfl) ?_
  refine lv_iload_n hx hb dX7_meets_1 rfl (lv_at hl 1 rfl) ?_
  refine g_put (ci := 7) (C := RX7) (T := TX7) (N := 22) (ws' := [(q_t, .inr (7, [.ref q_t_boxes, .ref q_t_next, .int t_done, .ref q_t_left, .ref q_t_pairs, .int t_many, .ref q_t_lengths, .ref q_t_riggings, .int t_told, .ref q_t_toldLength, .ref q_t_toldRigging, .ref q_t_toldRoom, .int t_ringN, .ref q_t_ring, .ref q_t_was, .ref q_t_saved, .ref q_t_isThere, .ref q_t_forms, .ref q_t_sizes, .ref q_t_items, .ref q_t_moved, .int p1]))]) S hinX7 tyX7 tyX7_ok nmX7 hK hw 0 21 k123 dX7_meets_2 rfl rfl (by decide) rfl rfl rfl (Nat.le_of_ble_eq_true rfl) rfl (fun H locs hw => ?_)
  refine lv_bipush (v := (-10 : Int32)) hx hb dX7_meets_5 (by decide) ?_
  refine lv_iload_n hx hb dX7_meets_7 rfl (lv_at hl 1 rfl) ?_
  refine lv_isub hx hb dX7_meets_8 ?_
  obtain ⟨rfl, rfl⟩ := pr2 (Option.some.inj hf)
  exact rt_i S hr hlk hw dX7_meets_9

def f_X7_isSheet (N : Nat) (p0 : Int32)  : Option (Int32) :=
  (bd1 (f_X7_in N p0 (0 : Int32) (3 : Int32)) (fun r1 => (some r1)))

set_option maxHeartbeats 4000000 in
set_option maxRecDepth 100000 in
theorem c_X7_isSheet (l : Launch) (D : va_G) (cI cZ cJ cO : ClassId) (sz : Nat) (N : Nat) (p0 : Int32)  (r : Int32) (hf : f_X7_isSheet N p0 = some r) : Met l yX7_isSheet wsX7_isSheet ({ frames := 1, cells := 0, slots := 0, locals := 22 }) (PreC D (TY cI cZ cJ cO) [.int p0] [] sz) (QcI D [] (va_A [] sz) r) 0 0 (va_A [] sz) := by
  refine ctr (cc := cX7_isSheet) (maxL := 1) (ret := (some .boolean)) (by decide) rfl (Nat.le_of_ble_eq_true rfl) ?_
  intro p e s m below meth c S hr hlk hnm hK hN hsz hA hw ls hl
  generalize va_A [] sz = A at hA hw ⊢
  have S : CallFix p m c cX7_isSheet 1 s ([.int p0] : List Value).toArray wsX7_isSheet RX7 := S
  have hx := S.1
  have hb := S.2.1
  have hts := S.2.2.2.2
  have hl : lv_has ls 1 [(0, .int p0)] := hl
  unfold f_X7_isSheet at hf
  refine lv_iload_n hx hb dX7_isSheet_0 rfl (lv_at hl 0 rfl) ?_
  refine lv_iconst (v := (0 : Int32)) hx hb dX7_isSheet_1 (by decide) ?_
  refine lv_iconst (v := (3 : Int32)) hx hb dX7_isSheet_2 (by decide) ?_
  obtain ⟨r1, h2, hf⟩ := bd1_some hf
  refine cl_i (wr := []) (ws' := []) hA hw [] [] [] rfl rfl rfl (by decide) rfl rfl (va_runS (As := [.int p0, .int (0 : Int32), .int (3 : Int32)]) (rest := []) S (c_X7_in l D cI cZ cJ cO _ N p0 (0 : Int32) (3 : Int32) r1 h2) (va_cwS 3 hts gX7_isSheet_X7_in rfl rfl rfl (by decide +kernel) ⟨Nat.le_of_ble_eq_true rfl, Nat.le_of_ble_eq_true rfl⟩) (pre_S hK hN hw [] rfl rfl) rfl rfl hl.1 rfl (lv_room (Nat.le_of_ble_eq_true rfl)) dX7_isSheet_3 ⟨Nat.zero_le _, Nat.zero_le _⟩) (fun H locs hw => ?_)
  obtain rfl := Option.some.inj hf
  exact rt_z S hr hlk hw dX7_isSheet_6 (zin (by assumption))

def L_X7_sheet_59 (N : Nat) (x1 : Int32) (K : (Nat → Int32) → Option (Int32 × Int32 × (Nat → Int32) × (Nat → Int32) × (Nat → Int32) × (Nat → Int32))) : Nat → Int32 → (Nat → Int32) → Option (Int32 × Int32 × (Nat → Int32) × (Nat → Int32) × (Nat → Int32) × (Nat → Int32))
  | 0, _, _ => none
  | n + 1, x4, w_t_items => (if (100 : Int32) ≤ x4 then (K w_t_items) else (ck (inb (((100 : Int32) * x1) + x4) 400) (L_X7_sheet_59 N x1 K n (x4 + (1 : Int32)) (upd w_t_items (((100 : Int32) * x1) + x4).toNatClampNeg (0 : Int32)))))

def f_X7_sheet (N : Nat) (p1 : Int32) (p2 : Int32) (p3 : Int32) (t_finding : Int32) (t_isThere : (Nat → Int32)) (t_forms : (Nat → Int32)) (t_sizes : (Nat → Int32)) (t_items : (Nat → Int32)) : Option (Int32 × Int32 × (Nat → Int32) × (Nat → Int32) × (Nat → Int32) × (Nat → Int32)) :=
  (bd1 (f_X7_isSheet N p1) (fun r1 => (if r1 = (0 : Int32) then (some ((-2 : Int32), t_finding, t_isThere, t_forms, t_sizes, t_items)) else (bd1 (f_X7_in N p2 (0 : Int32) (2 : Int32)) (fun r4 => (if r4 = (0 : Int32) then (some ((-2 : Int32), t_finding, t_isThere, t_forms, t_sizes, t_items)) else (if p3 ≤ (100 : Int32) then (if (0 : Int32) ≤ p3 then (ck (inb p1 4) (ck (inb p1 4) (ck (inb p1 4) (L_X7_sheet_59 N p1 (fun u14 => (some (p3, t_finding, (upd t_isThere p1.toNatClampNeg (vp_nar .boolean (1 : Int32))), (upd t_forms p1.toNatClampNeg p2), (upd t_sizes p1.toNatClampNeg p3), u14))) N (0 : Int32) t_items)))) else (bd2 (f_X7_meets N (5 : Int32) t_finding) (fun r15 u16 => (some (r15, u16, t_isThere, t_forms, t_sizes, t_items))))) else (some ((-2 : Int32), t_finding, t_isThere, t_forms, t_sizes, t_items)))))))))

set_option maxHeartbeats 4000000 in
set_option maxRecDepth 100000 in
theorem c_X7_sheet (l : Launch) (D : va_G) (cI cZ cJ cO : ClassId) (sz : Nat) (q_t q_t_boxes q_t_next q_t_left q_t_pairs q_t_lengths q_t_riggings q_t_toldLength q_t_toldRigging q_t_toldRoom q_t_ring q_t_was q_t_saved q_t_isThere q_t_forms q_t_sizes q_t_items q_t_moved : Nat) (N : Nat) (p1 : Int32) (p2 : Int32) (p3 : Int32) (t_done : Int32) (t_many : Int32) (t_told : Int32) (t_ringN : Int32) (t_finding : Int32) (t_isThere : (Nat → Int32)) (t_forms : (Nat → Int32)) (t_sizes : (Nat → Int32)) (t_items : (Nat → Int32)) (r : Int32) (o_t_finding : Int32) (o_t_isThere : (Nat → Int32)) (o_t_forms : (Nat → Int32)) (o_t_sizes : (Nat → Int32)) (o_t_items : (Nat → Int32)) (hf : f_X7_sheet N p1 p2 p3 t_finding t_isThere t_forms t_sizes t_items = some (r, o_t_finding, o_t_isThere, o_t_forms, o_t_sizes, o_t_items)) : Met l yX7_sheet wsX7_sheet ({ frames := 2, cells := 0, slots := 0, locals := 42 }) (PreC D (TY cI cZ cJ cO) [.ref q_t, .int p1, .int p2, .int p3] [(q_t, .inr (7, [.ref q_t_boxes, .ref q_t_next, .int t_done, .ref q_t_left, .ref q_t_pairs, .int t_many, .ref q_t_lengths, .ref q_t_riggings, .int t_told, .ref q_t_toldLength, .ref q_t_toldRigging, .ref q_t_toldRoom, .int t_ringN, .ref q_t_ring, .ref q_t_was, .ref q_t_saved, .ref q_t_isThere, .ref q_t_forms, .ref q_t_sizes, .ref q_t_items, .ref q_t_moved, .int t_finding])), (q_t_isThere, .inl (cZ, 4, .inl t_isThere)), (q_t_forms, .inl (cI, 4, .inl t_forms)), (q_t_sizes, .inl (cI, 4, .inl t_sizes)), (q_t_items, .inl (cI, 400, .inl t_items))] sz) (QcI D [(q_t, .inr (7, [.ref q_t_boxes, .ref q_t_next, .int t_done, .ref q_t_left, .ref q_t_pairs, .int t_many, .ref q_t_lengths, .ref q_t_riggings, .int t_told, .ref q_t_toldLength, .ref q_t_toldRigging, .ref q_t_toldRoom, .int t_ringN, .ref q_t_ring, .ref q_t_was, .ref q_t_saved, .ref q_t_isThere, .ref q_t_forms, .ref q_t_sizes, .ref q_t_items, .ref q_t_moved, .int o_t_finding])), (q_t_isThere, .inl (cZ, 4, .inl o_t_isThere)), (q_t_forms, .inl (cI, 4, .inl o_t_forms)), (q_t_sizes, .inl (cI, 4, .inl o_t_sizes)), (q_t_items, .inl (cI, 400, .inl o_t_items))] (va_A [(q_t, .inr (7, [.ref q_t_boxes, .ref q_t_next, .int t_done, .ref q_t_left, .ref q_t_pairs, .int t_many, .ref q_t_lengths, .ref q_t_riggings, .int t_told, .ref q_t_toldLength, .ref q_t_toldRigging, .ref q_t_toldRoom, .int t_ringN, .ref q_t_ring, .ref q_t_was, .ref q_t_saved, .ref q_t_isThere, .ref q_t_forms, .ref q_t_sizes, .ref q_t_items, .ref q_t_moved, .int t_finding])), (q_t_isThere, .inl (cZ, 4, .inl t_isThere)), (q_t_forms, .inl (cI, 4, .inl t_forms)), (q_t_sizes, .inl (cI, 4, .inl t_sizes)), (q_t_items, .inl (cI, 400, .inl t_items))] sz) r) 0 0 (va_A [(q_t, .inr (7, [.ref q_t_boxes, .ref q_t_next, .int t_done, .ref q_t_left, .ref q_t_pairs, .int t_many, .ref q_t_lengths, .ref q_t_riggings, .int t_told, .ref q_t_toldLength, .ref q_t_toldRigging, .ref q_t_toldRoom, .int t_ringN, .ref q_t_ring, .ref q_t_was, .ref q_t_saved, .ref q_t_isThere, .ref q_t_forms, .ref q_t_sizes, .ref q_t_items, .ref q_t_moved, .int t_finding])), (q_t_isThere, .inl (cZ, 4, .inl t_isThere)), (q_t_forms, .inl (cI, 4, .inl t_forms)), (q_t_sizes, .inl (cI, 4, .inl t_sizes)), (q_t_items, .inl (cI, 400, .inl t_items))] sz) := by
  refine ctr (cc := cX7_sheet) (maxL := 5) (ret := (some .int)) (by decide) rfl (Nat.le_of_ble_eq_true rfl) ?_
  intro p e s m below meth c S hr hlk hnm hK hN hsz hA hw ls hl
  generalize va_A [(q_t, .inr (7, [.ref q_t_boxes, .ref q_t_next, .int t_done, .ref q_t_left, .ref q_t_pairs, .int t_many, .ref q_t_lengths, .ref q_t_riggings, .int t_told, .ref q_t_toldLength, .ref q_t_toldRigging, .ref q_t_toldRoom, .int t_ringN, .ref q_t_ring, .ref q_t_was, .ref q_t_saved, .ref q_t_isThere, .ref q_t_forms, .ref q_t_sizes, .ref q_t_items, .ref q_t_moved, .int t_finding])), (q_t_isThere, .inl (cZ, 4, .inl t_isThere)), (q_t_forms, .inl (cI, 4, .inl t_forms)), (q_t_sizes, .inl (cI, 4, .inl t_sizes)), (q_t_items, .inl (cI, 400, .inl t_items))] sz = A at hA hw ⊢
  have S : CallFix p m c cX7_sheet 5 s ([.ref q_t, .int p1, .int p2, .int p3] : List Value).toArray wsX7_sheet RX7 := S
  have hx := S.1
  have hb := S.2.1
  have hts := S.2.2.2.2
  have hl : lv_has ls 5 [(0, .ref q_t), (1, .int p1), (2, .int p2), (3, .int p3)] := hl
  have hinX7 : ∀ w ∈ u_ws RX7 TX7 22, w ∈ wsX7_sheet := by decide +kernel
  have k51 : Cond.fieldLink RX7 51 "BallBoxesModel" "isThere" "[Z" ∈ wsX7_sheet := by decide +kernel
  have k54 : Cond.fieldLink RX7 54 "BallBoxesModel" "forms" "[I" ∈ wsX7_sheet := by decide +kernel
  have k57 : Cond.fieldLink RX7 57 "BallBoxesModel" "sizes" "[I" ∈ wsX7_sheet := by decide +kernel
  have k60 : Cond.fieldLink RX7 60 "BallBoxesModel" "items" "[I" ∈ wsX7_sheet := by decide +kernel
  have Lp59 : ∀ (x1 : Int32) (x3 : Int32) (w_t_finding : Int32) (w_t_isThere : (Nat → Int32)) (w_t_forms : (Nat → Int32)) (w_t_sizes : (Nat → Int32)) (K : (Nat → Int32) → Option (Int32 × Int32 × (Nat → Int32) × (Nat → Int32) × (Nat → Int32) × (Nat → Int32))), (∀ (z_t_items : (Nat → Int32)) (H : Heap) (locs : List Loc) (ls : Array Slot), Wd D A s.heap [(q_t, .inr (7, [.ref q_t_boxes, .ref q_t_next, .int t_done, .ref q_t_left, .ref q_t_pairs, .int t_many, .ref q_t_lengths, .ref q_t_riggings, .int t_told, .ref q_t_toldLength, .ref q_t_toldRigging, .ref q_t_toldRoom, .int t_ringN, .ref q_t_ring, .ref q_t_was, .ref q_t_saved, .ref q_t_isThere, .ref q_t_forms, .ref q_t_sizes, .ref q_t_items, .ref q_t_moved, .int w_t_finding])), (q_t_isThere, .inl (cZ, 4, .inl w_t_isThere)), (q_t_forms, .inl (cI, 4, .inl w_t_forms)), (q_t_sizes, .inl (cI, 4, .inl w_t_sizes)), (q_t_items, .inl (cI, 400, .inl z_t_items))] H locs → lv_has ls 5 [(3, .int x3)] → K z_t_items = some (r, o_t_finding, o_t_isThere, o_t_forms, o_t_sizes, o_t_items) → W p l e ({ frames := 2, cells := 0, slots := 0, locals := 42 } : Room) s m ([.ref q_t, .int p1, .int p2, .int p3] : List Value).toArray below meth c H locs 0 0 (MQ below (QcI D [(q_t, .inr (7, [.ref q_t_boxes, .ref q_t_next, .int t_done, .ref q_t_left, .ref q_t_pairs, .int t_many, .ref q_t_lengths, .ref q_t_riggings, .int t_told, .ref q_t_toldLength, .ref q_t_toldRigging, .ref q_t_toldRoom, .int t_ringN, .ref q_t_ring, .ref q_t_was, .ref q_t_saved, .ref q_t_isThere, .ref q_t_forms, .ref q_t_sizes, .ref q_t_items, .ref q_t_moved, .int o_t_finding])), (q_t_isThere, .inl (cZ, 4, .inl o_t_isThere)), (q_t_forms, .inl (cI, 4, .inl o_t_forms)), (q_t_sizes, .inl (cI, 4, .inl o_t_sizes)), (q_t_items, .inl (cI, 400, .inl o_t_items))] A r) ([.ref q_t, .int p1, .int p2, .int p3] : List Value).toArray s 0 0 A) (F0 m 85 ls [])) → ∀ (n : Nat) (x4 : Int32) (w_t_items : (Nat → Int32)) (H : Heap) (locs : List Loc) (ls : Array Slot), Wd D A s.heap [(q_t, .inr (7, [.ref q_t_boxes, .ref q_t_next, .int t_done, .ref q_t_left, .ref q_t_pairs, .int t_many, .ref q_t_lengths, .ref q_t_riggings, .int t_told, .ref q_t_toldLength, .ref q_t_toldRigging, .ref q_t_toldRoom, .int t_ringN, .ref q_t_ring, .ref q_t_was, .ref q_t_saved, .ref q_t_isThere, .ref q_t_forms, .ref q_t_sizes, .ref q_t_items, .ref q_t_moved, .int w_t_finding])), (q_t_isThere, .inl (cZ, 4, .inl w_t_isThere)), (q_t_forms, .inl (cI, 4, .inl w_t_forms)), (q_t_sizes, .inl (cI, 4, .inl w_t_sizes)), (q_t_items, .inl (cI, 400, .inl w_t_items))] H locs → lv_has ls 5 [(0, .ref q_t), (1, .int x1), (3, .int x3), (4, .int x4)] → L_X7_sheet_59 N x1 K n x4 w_t_items = some (r, o_t_finding, o_t_isThere, o_t_forms, o_t_sizes, o_t_items) → W p l e ({ frames := 2, cells := 0, slots := 0, locals := 42 } : Room) s m ([.ref q_t, .int p1, .int p2, .int p3] : List Value).toArray below meth c H locs 0 0 (MQ below (QcI D [(q_t, .inr (7, [.ref q_t_boxes, .ref q_t_next, .int t_done, .ref q_t_left, .ref q_t_pairs, .int t_many, .ref q_t_lengths, .ref q_t_riggings, .int t_told, .ref q_t_toldLength, .ref q_t_toldRigging, .ref q_t_toldRoom, .int t_ringN, .ref q_t_ring, .ref q_t_was, .ref q_t_saved, .ref q_t_isThere, .ref q_t_forms, .ref q_t_sizes, .ref q_t_items, .ref q_t_moved, .int o_t_finding])), (q_t_isThere, .inl (cZ, 4, .inl o_t_isThere)), (q_t_forms, .inl (cI, 4, .inl o_t_forms)), (q_t_sizes, .inl (cI, 4, .inl o_t_sizes)), (q_t_items, .inl (cI, 400, .inl o_t_items))] A r) ([.ref q_t, .int p1, .int p2, .int p3] : List Value).toArray s 0 0 A) (F0 m 59 ls []) := by
    intro x1 x3 w_t_finding w_t_isThere w_t_forms w_t_sizes K hKx n
    induction n with
    | zero =>
      intro x4 w_t_items H locs ls hw hl hf
      rw [L_X7_sheet_59] at hf
      cases hf
    | succ n ih =>
      intro x4 w_t_items H locs ls hw hl hf
      rw [L_X7_sheet_59] at hf
      refine lv_iload hx hb dX7_sheet_59 (lv_at hl 3 rfl) ?_
      refine lv_bipush (v := (100 : Int32)) hx hb dX7_sheet_61 (by decide) ?_
      refine lv_icmp_ge (tgt := 85) hx hb dX7_sheet_63 (by decide) (fun c12 => ?_) (fun c12 => ?_)
      · have hf := (if_pos c12).symm.trans hf
        exact hKx w_t_items _ _ _ hw (lv_sub hl [2] rfl) hf
      · have hf := (if_neg c12).symm.trans hf
        refine lv_aload_n hx hb dX7_sheet_66 rfl (lv_at hl 0 rfl) ?_
        refine g_get (ci := 7) (C := RX7) (T := TX7) (N := 22) S hinX7 hK hw 0 19 k60 dX7_sheet_67 rfl rfl (by decide) rfl ?_
        refine lv_bipush (v := (100 : Int32)) hx hb dX7_sheet_70 (by decide) ?_
        refine lv_iload_n hx hb dX7_sheet_72 rfl (lv_at hl 1 rfl) ?_
        refine lv_imul hx hb dX7_sheet_73 ?_
        refine lv_iload hx hb dX7_sheet_74 (lv_at hl 3 rfl) ?_
        refine lv_iadd hx hb dX7_sheet_76 ?_
        refine lv_iconst (v := (0 : Int32)) hx hb dX7_sheet_77 (by decide) ?_
        obtain ⟨b13, hf⟩ := ck_some hf
        refine g_iast (ws' := [(q_t, .inr (7, [.ref q_t_boxes, .ref q_t_next, .int t_done, .ref q_t_left, .ref q_t_pairs, .int t_many, .ref q_t_lengths, .ref q_t_riggings, .int t_told, .ref q_t_toldLength, .ref q_t_toldRigging, .ref q_t_toldRoom, .int t_ringN, .ref q_t_ring, .ref q_t_was, .ref q_t_saved, .ref q_t_isThere, .ref q_t_forms, .ref q_t_sizes, .ref q_t_items, .ref q_t_moved, .int w_t_finding])), (q_t_isThere, .inl (cZ, 4, .inl w_t_isThere)), (q_t_forms, .inl (cI, 4, .inl w_t_forms)), (q_t_sizes, .inl (cI, 4, .inl w_t_sizes)), (q_t_items, .inl (cI, 400, .inl (upd w_t_items (((100 : Int32) * x1) + x4).toNatClampNeg (0 : Int32))))]) S hK hw 4 0 b13 dX7_sheet_78 rfl rfl rfl (fun H locs hw => ?_)
        refine lv_iinc (v := (x4 + (1 : Int32))) (lv' := [(4, .int (x4 + (1 : Int32))), (0, .ref q_t), (1, .int x1), (3, .int x3)]) hx hb dX7_sheet_79 hl (k := 3) rfl rfl (by decide) rfl (fun ls hl => ?_)
        refine lv_goto (tgt := 59) hx hb dX7_sheet_82 (by decide) ?_
        exact ih (x4 + (1 : Int32)) (upd w_t_items (((100 : Int32) * x1) + x4).toNatClampNeg (0 : Int32)) _ _ _ hw (lv_sub hl [1, 2, 3, 0] rfl) hf
  unfold f_X7_sheet at hf
  refine lv_iload_n hx hb dX7_sheet_0 rfl (lv_at hl 1 rfl) ?_
  obtain ⟨r1, h2, hf⟩ := bd1_some hf
  refine cl_i (wr := [(q_t, .inr (7, [.ref q_t_boxes, .ref q_t_next, .int t_done, .ref q_t_left, .ref q_t_pairs, .int t_many, .ref q_t_lengths, .ref q_t_riggings, .int t_told, .ref q_t_toldLength, .ref q_t_toldRigging, .ref q_t_toldRoom, .int t_ringN, .ref q_t_ring, .ref q_t_was, .ref q_t_saved, .ref q_t_isThere, .ref q_t_forms, .ref q_t_sizes, .ref q_t_items, .ref q_t_moved, .int t_finding])), (q_t_isThere, .inl (cZ, 4, .inl t_isThere)), (q_t_forms, .inl (cI, 4, .inl t_forms)), (q_t_sizes, .inl (cI, 4, .inl t_sizes)), (q_t_items, .inl (cI, 400, .inl t_items))]) (ws' := [(q_t, .inr (7, [.ref q_t_boxes, .ref q_t_next, .int t_done, .ref q_t_left, .ref q_t_pairs, .int t_many, .ref q_t_lengths, .ref q_t_riggings, .int t_told, .ref q_t_toldLength, .ref q_t_toldRigging, .ref q_t_toldRoom, .int t_ringN, .ref q_t_ring, .ref q_t_was, .ref q_t_saved, .ref q_t_isThere, .ref q_t_forms, .ref q_t_sizes, .ref q_t_items, .ref q_t_moved, .int t_finding])), (q_t_isThere, .inl (cZ, 4, .inl t_isThere)), (q_t_forms, .inl (cI, 4, .inl t_forms)), (q_t_sizes, .inl (cI, 4, .inl t_sizes)), (q_t_items, .inl (cI, 400, .inl t_items))]) hA hw [] [0, 1, 2, 3, 4] [0, 1, 2, 3, 4] rfl rfl rfl (by decide) rfl rfl (va_runS (As := [.int p1]) (rest := []) S (c_X7_isSheet l D cI cZ cJ cO _ N p1 r1 h2) (va_cwS 1 hts gX7_sheet_X7_isSheet rfl rfl rfl (by decide +kernel) ⟨Nat.le_of_ble_eq_true rfl, Nat.le_of_ble_eq_true rfl⟩) (pre_S hK hN hw [] rfl rfl) rfl rfl hl.1 rfl (lv_room (Nat.le_of_ble_eq_true rfl)) dX7_sheet_1 ⟨Nat.zero_le _, Nat.zero_le _⟩) (fun H locs hw => ?_)
  refine lv_if_eq (tgt := 22) hx hb dX7_sheet_4 (by decide) (fun c3 => ?_) (fun c3 => ?_)
  · have hf := (if_pos c3).symm.trans hf
    refine lv_bipush (v := (-2 : Int32)) hx hb dX7_sheet_22 (by decide) ?_
    obtain ⟨rfl, rfl, rfl, rfl, rfl, rfl⟩ := pr6 (Option.some.inj hf)
    exact rt_i S hr hlk hw dX7_sheet_24
  · have hf := (if_neg c3).symm.trans hf
    refine lv_iload_n hx hb dX7_sheet_7 rfl (lv_at hl 2 rfl) ?_
    refine lv_iconst (v := (0 : Int32)) hx hb dX7_sheet_8 (by decide) ?_
    refine lv_iconst (v := (2 : Int32)) hx hb dX7_sheet_9 (by decide) ?_
    obtain ⟨r4, h5, hf⟩ := bd1_some hf
    refine cl_i (wr := [(q_t, .inr (7, [.ref q_t_boxes, .ref q_t_next, .int t_done, .ref q_t_left, .ref q_t_pairs, .int t_many, .ref q_t_lengths, .ref q_t_riggings, .int t_told, .ref q_t_toldLength, .ref q_t_toldRigging, .ref q_t_toldRoom, .int t_ringN, .ref q_t_ring, .ref q_t_was, .ref q_t_saved, .ref q_t_isThere, .ref q_t_forms, .ref q_t_sizes, .ref q_t_items, .ref q_t_moved, .int t_finding])), (q_t_isThere, .inl (cZ, 4, .inl t_isThere)), (q_t_forms, .inl (cI, 4, .inl t_forms)), (q_t_sizes, .inl (cI, 4, .inl t_sizes)), (q_t_items, .inl (cI, 400, .inl t_items))]) (ws' := [(q_t, .inr (7, [.ref q_t_boxes, .ref q_t_next, .int t_done, .ref q_t_left, .ref q_t_pairs, .int t_many, .ref q_t_lengths, .ref q_t_riggings, .int t_told, .ref q_t_toldLength, .ref q_t_toldRigging, .ref q_t_toldRoom, .int t_ringN, .ref q_t_ring, .ref q_t_was, .ref q_t_saved, .ref q_t_isThere, .ref q_t_forms, .ref q_t_sizes, .ref q_t_items, .ref q_t_moved, .int t_finding])), (q_t_isThere, .inl (cZ, 4, .inl t_isThere)), (q_t_forms, .inl (cI, 4, .inl t_forms)), (q_t_sizes, .inl (cI, 4, .inl t_sizes)), (q_t_items, .inl (cI, 400, .inl t_items))]) hA hw [] [0, 1, 2, 3, 4] [0, 1, 2, 3, 4] rfl rfl rfl (by decide) rfl rfl (va_runS (As := [.int p2, .int (0 : Int32), .int (2 : Int32)]) (rest := []) S (c_X7_in l D cI cZ cJ cO _ N p2 (0 : Int32) (2 : Int32) r4 h5) (va_cwS 3 hts gX7_sheet_X7_in rfl rfl rfl (by decide +kernel) ⟨Nat.le_of_ble_eq_true rfl, Nat.le_of_ble_eq_true rfl⟩) (pre_S hK hN hw [] rfl rfl) rfl rfl hl.1 rfl (lv_room (Nat.le_of_ble_eq_true rfl)) dX7_sheet_10 ⟨Nat.zero_le _, Nat.zero_le _⟩) (fun H locs hw => ?_)
    refine lv_if_eq (tgt := 22) hx hb dX7_sheet_13 (by decide) (fun c6 => ?_) (fun c6 => ?_)
    · have hf := (if_pos c6).symm.trans hf
      refine lv_bipush (v := (-2 : Int32)) hx hb dX7_sheet_22 (by decide) ?_
      obtain ⟨rfl, rfl, rfl, rfl, rfl, rfl⟩ := pr6 (Option.some.inj hf)
      exact rt_i S hr hlk hw dX7_sheet_24
    · have hf := (if_neg c6).symm.trans hf
      refine lv_iload_n hx hb dX7_sheet_16 rfl (lv_at hl 3 rfl) ?_
      refine lv_bipush (v := (100 : Int32)) hx hb dX7_sheet_17 (by decide) ?_
      refine lv_icmp_le (tgt := 25) hx hb dX7_sheet_19 (by decide) (fun c7 => ?_) (fun c7 => ?_)
      · have hf := (if_pos c7).symm.trans hf
        refine lv_iload_n hx hb dX7_sheet_25 rfl (lv_at hl 3 rfl) ?_
        refine lv_if_ge (tgt := 35) hx hb dX7_sheet_26 (by decide) (fun c8 => ?_) (fun c8 => ?_)
        · have hf := (if_pos c8).symm.trans hf
          refine lv_aload_n hx hb dX7_sheet_35 rfl (lv_at hl 0 rfl) ?_
          refine g_get (ci := 7) (C := RX7) (T := TX7) (N := 22) S hinX7 hK hw 0 16 k51 dX7_sheet_36 rfl rfl (by decide) rfl ?_
          refine lv_iload_n hx hb dX7_sheet_39 rfl (lv_at hl 1 rfl) ?_
          refine lv_iconst (v := (1 : Int32)) hx hb dX7_sheet_40 (by decide) ?_
          obtain ⟨b9, hf⟩ := ck_some hf
          refine g_zast (ws' := [(q_t, .inr (7, [.ref q_t_boxes, .ref q_t_next, .int t_done, .ref q_t_left, .ref q_t_pairs, .int t_many, .ref q_t_lengths, .ref q_t_riggings, .int t_told, .ref q_t_toldLength, .ref q_t_toldRigging, .ref q_t_toldRoom, .int t_ringN, .ref q_t_ring, .ref q_t_was, .ref q_t_saved, .ref q_t_isThere, .ref q_t_forms, .ref q_t_sizes, .ref q_t_items, .ref q_t_moved, .int t_finding])), (q_t_isThere, .inl (cZ, 4, .inl (upd t_isThere p1.toNatClampNeg (vp_nar .boolean (1 : Int32))))), (q_t_forms, .inl (cI, 4, .inl t_forms)), (q_t_sizes, .inl (cI, 4, .inl t_sizes)), (q_t_items, .inl (cI, 400, .inl t_items))]) S hK hw 1 1 b9 dX7_sheet_41 rfl rfl rfl (fun H locs hw => ?_)
          refine lv_aload_n hx hb dX7_sheet_42 rfl (lv_at hl 0 rfl) ?_
          refine g_get (ci := 7) (C := RX7) (T := TX7) (N := 22) S hinX7 hK hw 0 17 k54 dX7_sheet_43 rfl rfl (by decide) rfl ?_
          refine lv_iload_n hx hb dX7_sheet_46 rfl (lv_at hl 1 rfl) ?_
          refine lv_iload_n hx hb dX7_sheet_47 rfl (lv_at hl 2 rfl) ?_
          obtain ⟨b10, hf⟩ := ck_some hf
          refine g_iast (ws' := [(q_t, .inr (7, [.ref q_t_boxes, .ref q_t_next, .int t_done, .ref q_t_left, .ref q_t_pairs, .int t_many, .ref q_t_lengths, .ref q_t_riggings, .int t_told, .ref q_t_toldLength, .ref q_t_toldRigging, .ref q_t_toldRoom, .int t_ringN, .ref q_t_ring, .ref q_t_was, .ref q_t_saved, .ref q_t_isThere, .ref q_t_forms, .ref q_t_sizes, .ref q_t_items, .ref q_t_moved, .int t_finding])), (q_t_isThere, .inl (cZ, 4, .inl (upd t_isThere p1.toNatClampNeg (vp_nar .boolean (1 : Int32))))), (q_t_forms, .inl (cI, 4, .inl (upd t_forms p1.toNatClampNeg p2))), (q_t_sizes, .inl (cI, 4, .inl t_sizes)), (q_t_items, .inl (cI, 400, .inl t_items))]) S hK hw 2 0 b10 dX7_sheet_48 rfl rfl rfl (fun H locs hw => ?_)
          refine lv_aload_n hx hb dX7_sheet_49 rfl (lv_at hl 0 rfl) ?_
          refine g_get (ci := 7) (C := RX7) (T := TX7) (N := 22) S hinX7 hK hw 0 18 k57 dX7_sheet_50 rfl rfl (by decide) rfl ?_
          refine lv_iload_n hx hb dX7_sheet_53 rfl (lv_at hl 1 rfl) ?_
          refine lv_iload_n hx hb dX7_sheet_54 rfl (lv_at hl 3 rfl) ?_
          obtain ⟨b11, hf⟩ := ck_some hf
          refine g_iast (ws' := [(q_t, .inr (7, [.ref q_t_boxes, .ref q_t_next, .int t_done, .ref q_t_left, .ref q_t_pairs, .int t_many, .ref q_t_lengths, .ref q_t_riggings, .int t_told, .ref q_t_toldLength, .ref q_t_toldRigging, .ref q_t_toldRoom, .int t_ringN, .ref q_t_ring, .ref q_t_was, .ref q_t_saved, .ref q_t_isThere, .ref q_t_forms, .ref q_t_sizes, .ref q_t_items, .ref q_t_moved, .int t_finding])), (q_t_isThere, .inl (cZ, 4, .inl (upd t_isThere p1.toNatClampNeg (vp_nar .boolean (1 : Int32))))), (q_t_forms, .inl (cI, 4, .inl (upd t_forms p1.toNatClampNeg p2))), (q_t_sizes, .inl (cI, 4, .inl (upd t_sizes p1.toNatClampNeg p3))), (q_t_items, .inl (cI, 400, .inl t_items))]) S hK hw 3 0 b11 dX7_sheet_55 rfl rfl rfl (fun H locs hw => ?_)
          refine lv_iconst (v := (0 : Int32)) hx hb dX7_sheet_56 (by decide) ?_
          refine lv_istore (lv' := [(4, .int (0 : Int32)), (0, .ref q_t), (1, .int p1), (2, .int p2), (3, .int p3)]) hx hb dX7_sheet_57 hl (by decide) rfl (fun ls hl => ?_)
          refine Lp59 p1 p3 t_finding (upd t_isThere p1.toNatClampNeg (vp_nar .boolean (1 : Int32))) (upd t_forms p1.toNatClampNeg p2) (upd t_sizes p1.toNatClampNeg p3) _ (fun u14 H locs ls hw hl hf => ?_) N (0 : Int32) t_items _ _ _ hw (lv_sub hl [1, 2, 4, 0] rfl) hf
          refine lv_iload_n hx hb dX7_sheet_85 rfl (lv_at hl 0 rfl) ?_
          obtain ⟨rfl, rfl, rfl, rfl, rfl, rfl⟩ := pr6 (Option.some.inj hf)
          exact rt_i S hr hlk hw dX7_sheet_86
        · have hf := (if_neg c8).symm.trans hf
          refine lv_aload_n hx hb dX7_sheet_29 rfl (lv_at hl 0 rfl) ?_
          refine lv_iconst (v := (5 : Int32)) hx hb dX7_sheet_30 (by decide) ?_
          obtain ⟨r15, u16, h17, hf⟩ := bd2_some hf
          refine cl_i (wr := [(q_t_isThere, .inl (cZ, 4, .inl t_isThere)), (q_t_forms, .inl (cI, 4, .inl t_forms)), (q_t_sizes, .inl (cI, 4, .inl t_sizes)), (q_t_items, .inl (cI, 400, .inl t_items))]) (ws' := [(q_t, .inr (7, [.ref q_t_boxes, .ref q_t_next, .int t_done, .ref q_t_left, .ref q_t_pairs, .int t_many, .ref q_t_lengths, .ref q_t_riggings, .int t_told, .ref q_t_toldLength, .ref q_t_toldRigging, .ref q_t_toldRoom, .int t_ringN, .ref q_t_ring, .ref q_t_was, .ref q_t_saved, .ref q_t_isThere, .ref q_t_forms, .ref q_t_sizes, .ref q_t_items, .ref q_t_moved, .int u16])), (q_t_isThere, .inl (cZ, 4, .inl t_isThere)), (q_t_forms, .inl (cI, 4, .inl t_forms)), (q_t_sizes, .inl (cI, 4, .inl t_sizes)), (q_t_items, .inl (cI, 400, .inl t_items))]) hA hw [0] [1, 2, 3, 4] [4, 0, 1, 2, 3] rfl rfl rfl (by decide) rfl rfl (va_runV (As := [.int (5 : Int32)]) (rest := []) S (c_X7_meets l D cI cZ cJ cO _ q_t q_t_boxes q_t_next q_t_left q_t_pairs q_t_lengths q_t_riggings q_t_toldLength q_t_toldRigging q_t_toldRoom q_t_ring q_t_was q_t_saved q_t_isThere q_t_forms q_t_sizes q_t_items q_t_moved N (5 : Int32) t_done t_many t_told t_ringN t_finding r15 u16 h17) (cwV 1 hts gX7_sheet_X7_meets rfl rfl rfl (by decide +kernel) ⟨Nat.le_of_ble_eq_true rfl, Nat.le_of_ble_eq_true rfl⟩) (pre_V hK hN hw [0] rfl rfl (C := RX7) (T := TX7) (N := 22) (ci := 7) (q0 := 0) rfl rfl) rfl rfl hl.1 rfl (lv_room (Nat.le_of_ble_eq_true rfl)) dX7_sheet_31 ⟨Nat.zero_le _, Nat.zero_le _⟩) (fun H locs hw => ?_)
          obtain ⟨rfl, rfl, rfl, rfl, rfl, rfl⟩ := pr6 (Option.some.inj hf)
          exact rt_i S hr hlk hw dX7_sheet_34
      · have hf := (if_neg c7).symm.trans hf
        refine lv_bipush (v := (-2 : Int32)) hx hb dX7_sheet_22 (by decide) ?_
        obtain ⟨rfl, rfl, rfl, rfl, rfl, rfl⟩ := pr6 (Option.some.inj hf)
        exact rt_i S hr hlk hw dX7_sheet_24

def f_X7_lose (N : Nat) (p1 : Int32) (t_finding : Int32) (t_isThere : (Nat → Int32)) (t_sizes : (Nat → Int32)) : Option (Int32 × Int32 × (Nat → Int32)) :=
  (bd1 (f_X7_isSheet N p1) (fun r1 => (if r1 = (0 : Int32) then (some ((-2 : Int32), t_finding, t_isThere)) else (ck (inb p1 4) (if (t_isThere p1.toNatClampNeg) = (0 : Int32) then (bd2 (f_X7_meets N (1 : Int32) t_finding) (fun r8 u9 => (some (r8, u9, t_isThere)))) else (ck (inb p1 4) (ck (inb p1 4) (some ((t_sizes p1.toNatClampNeg), t_finding, (upd t_isThere p1.toNatClampNeg (vp_nar .boolean (0 : Int32))))))))))))

set_option maxHeartbeats 4000000 in
set_option maxRecDepth 100000 in
theorem c_X7_lose (l : Launch) (D : va_G) (cI cZ cJ cO : ClassId) (sz : Nat) (q_t q_t_boxes q_t_next q_t_left q_t_pairs q_t_lengths q_t_riggings q_t_toldLength q_t_toldRigging q_t_toldRoom q_t_ring q_t_was q_t_saved q_t_isThere q_t_forms q_t_sizes q_t_items q_t_moved : Nat) (N : Nat) (p1 : Int32) (t_done : Int32) (t_many : Int32) (t_told : Int32) (t_ringN : Int32) (t_finding : Int32) (t_isThere : (Nat → Int32)) (t_sizes : (Nat → Int32)) (r : Int32) (o_t_finding : Int32) (o_t_isThere : (Nat → Int32)) (hf : f_X7_lose N p1 t_finding t_isThere t_sizes = some (r, o_t_finding, o_t_isThere)) : Met l yX7_lose wsX7_lose ({ frames := 2, cells := 0, slots := 0, locals := 42 }) (PreC D (TY cI cZ cJ cO) [.ref q_t, .int p1] [(q_t, .inr (7, [.ref q_t_boxes, .ref q_t_next, .int t_done, .ref q_t_left, .ref q_t_pairs, .int t_many, .ref q_t_lengths, .ref q_t_riggings, .int t_told, .ref q_t_toldLength, .ref q_t_toldRigging, .ref q_t_toldRoom, .int t_ringN, .ref q_t_ring, .ref q_t_was, .ref q_t_saved, .ref q_t_isThere, .ref q_t_forms, .ref q_t_sizes, .ref q_t_items, .ref q_t_moved, .int t_finding])), (q_t_isThere, .inl (cZ, 4, .inl t_isThere)), (q_t_sizes, .inl (cI, 4, .inl t_sizes))] sz) (QcI D [(q_t, .inr (7, [.ref q_t_boxes, .ref q_t_next, .int t_done, .ref q_t_left, .ref q_t_pairs, .int t_many, .ref q_t_lengths, .ref q_t_riggings, .int t_told, .ref q_t_toldLength, .ref q_t_toldRigging, .ref q_t_toldRoom, .int t_ringN, .ref q_t_ring, .ref q_t_was, .ref q_t_saved, .ref q_t_isThere, .ref q_t_forms, .ref q_t_sizes, .ref q_t_items, .ref q_t_moved, .int o_t_finding])), (q_t_isThere, .inl (cZ, 4, .inl o_t_isThere)), (q_t_sizes, .inl (cI, 4, .inl t_sizes))] (va_A [(q_t, .inr (7, [.ref q_t_boxes, .ref q_t_next, .int t_done, .ref q_t_left, .ref q_t_pairs, .int t_many, .ref q_t_lengths, .ref q_t_riggings, .int t_told, .ref q_t_toldLength, .ref q_t_toldRigging, .ref q_t_toldRoom, .int t_ringN, .ref q_t_ring, .ref q_t_was, .ref q_t_saved, .ref q_t_isThere, .ref q_t_forms, .ref q_t_sizes, .ref q_t_items, .ref q_t_moved, .int t_finding])), (q_t_isThere, .inl (cZ, 4, .inl t_isThere)), (q_t_sizes, .inl (cI, 4, .inl t_sizes))] sz) r) 0 0 (va_A [(q_t, .inr (7, [.ref q_t_boxes, .ref q_t_next, .int t_done, .ref q_t_left, .ref q_t_pairs, .int t_many, .ref q_t_lengths, .ref q_t_riggings, .int t_told, .ref q_t_toldLength, .ref q_t_toldRigging, .ref q_t_toldRoom, .int t_ringN, .ref q_t_ring, .ref q_t_was, .ref q_t_saved, .ref q_t_isThere, .ref q_t_forms, .ref q_t_sizes, .ref q_t_items, .ref q_t_moved, .int t_finding])), (q_t_isThere, .inl (cZ, 4, .inl t_isThere)), (q_t_sizes, .inl (cI, 4, .inl t_sizes))] sz) := by
  refine ctr (cc := cX7_lose) (maxL := 2) (ret := (some .int)) (by decide) rfl (Nat.le_of_ble_eq_true rfl) ?_
  intro p e s m below meth c S hr hlk hnm hK hN hsz hA hw ls hl
  generalize va_A [(q_t, .inr (7, [.ref q_t_boxes, .ref q_t_next, .int t_done, .ref q_t_left, .ref q_t_pairs, .int t_many, .ref q_t_lengths, .ref q_t_riggings, .int t_told, .ref q_t_toldLength, .ref q_t_toldRigging, .ref q_t_toldRoom, .int t_ringN, .ref q_t_ring, .ref q_t_was, .ref q_t_saved, .ref q_t_isThere, .ref q_t_forms, .ref q_t_sizes, .ref q_t_items, .ref q_t_moved, .int t_finding])), (q_t_isThere, .inl (cZ, 4, .inl t_isThere)), (q_t_sizes, .inl (cI, 4, .inl t_sizes))] sz = A at hA hw ⊢
  have S : CallFix p m c cX7_lose 2 s ([.ref q_t, .int p1] : List Value).toArray wsX7_lose RX7 := S
  have hx := S.1
  have hb := S.2.1
  have hts := S.2.2.2.2
  have hl : lv_has ls 2 [(0, .ref q_t), (1, .int p1)] := hl
  have hinX7 : ∀ w ∈ u_ws RX7 TX7 22, w ∈ wsX7_lose := by decide +kernel
  have k51 : Cond.fieldLink RX7 51 "BallBoxesModel" "isThere" "[Z" ∈ wsX7_lose := by decide +kernel
  have k57 : Cond.fieldLink RX7 57 "BallBoxesModel" "sizes" "[I" ∈ wsX7_lose := by decide +kernel
  unfold f_X7_lose at hf
  refine lv_iload_n hx hb dX7_lose_0 rfl (lv_at hl 1 rfl) ?_
  obtain ⟨r1, h2, hf⟩ := bd1_some hf
  refine cl_i (wr := [(q_t, .inr (7, [.ref q_t_boxes, .ref q_t_next, .int t_done, .ref q_t_left, .ref q_t_pairs, .int t_many, .ref q_t_lengths, .ref q_t_riggings, .int t_told, .ref q_t_toldLength, .ref q_t_toldRigging, .ref q_t_toldRoom, .int t_ringN, .ref q_t_ring, .ref q_t_was, .ref q_t_saved, .ref q_t_isThere, .ref q_t_forms, .ref q_t_sizes, .ref q_t_items, .ref q_t_moved, .int t_finding])), (q_t_isThere, .inl (cZ, 4, .inl t_isThere)), (q_t_sizes, .inl (cI, 4, .inl t_sizes))]) (ws' := [(q_t, .inr (7, [.ref q_t_boxes, .ref q_t_next, .int t_done, .ref q_t_left, .ref q_t_pairs, .int t_many, .ref q_t_lengths, .ref q_t_riggings, .int t_told, .ref q_t_toldLength, .ref q_t_toldRigging, .ref q_t_toldRoom, .int t_ringN, .ref q_t_ring, .ref q_t_was, .ref q_t_saved, .ref q_t_isThere, .ref q_t_forms, .ref q_t_sizes, .ref q_t_items, .ref q_t_moved, .int t_finding])), (q_t_isThere, .inl (cZ, 4, .inl t_isThere)), (q_t_sizes, .inl (cI, 4, .inl t_sizes))]) hA hw [] [0, 1, 2] [0, 1, 2] rfl rfl rfl (by decide) rfl rfl (va_runS (As := [.int p1]) (rest := []) S (c_X7_isSheet l D cI cZ cJ cO _ N p1 r1 h2) (va_cwS 1 hts gX7_lose_X7_isSheet rfl rfl rfl (by decide +kernel) ⟨Nat.le_of_ble_eq_true rfl, Nat.le_of_ble_eq_true rfl⟩) (pre_S hK hN hw [] rfl rfl) rfl rfl hl.1 rfl (lv_room (Nat.le_of_ble_eq_true rfl)) dX7_lose_1 ⟨Nat.zero_le _, Nat.zero_le _⟩) (fun H locs hw => ?_)
  refine lv_if_ne (tgt := 10) hx hb dX7_lose_4 (by decide) (fun c3 => ?_) (fun c3 => ?_)
  · have hf := (if_neg c3).symm.trans hf
    refine lv_aload_n hx hb dX7_lose_10 rfl (lv_at hl 0 rfl) ?_
    refine g_get (ci := 7) (C := RX7) (T := TX7) (N := 22) S hinX7 hK hw 0 16 k51 dX7_lose_11 rfl rfl (by decide) rfl ?_
    refine lv_iload_n hx hb dX7_lose_14 rfl (lv_at hl 1 rfl) ?_
    obtain ⟨b4, hf⟩ := ck_some hf
    refine g_zald S hK hw 1 1 b4 dX7_lose_15 rfl rfl ?_
    refine lv_if_ne (tgt := 25) hx hb dX7_lose_16 (by decide) (fun c5 => ?_) (fun c5 => ?_)
    · have hf := (if_neg c5).symm.trans hf
      refine lv_aload_n hx hb dX7_lose_25 rfl (lv_at hl 0 rfl) ?_
      refine g_get (ci := 7) (C := RX7) (T := TX7) (N := 22) S hinX7 hK hw 0 16 k51 dX7_lose_26 rfl rfl (by decide) rfl ?_
      refine lv_iload_n hx hb dX7_lose_29 rfl (lv_at hl 1 rfl) ?_
      refine lv_iconst (v := (0 : Int32)) hx hb dX7_lose_30 (by decide) ?_
      obtain ⟨b6, hf⟩ := ck_some hf
      refine g_zast (ws' := [(q_t, .inr (7, [.ref q_t_boxes, .ref q_t_next, .int t_done, .ref q_t_left, .ref q_t_pairs, .int t_many, .ref q_t_lengths, .ref q_t_riggings, .int t_told, .ref q_t_toldLength, .ref q_t_toldRigging, .ref q_t_toldRoom, .int t_ringN, .ref q_t_ring, .ref q_t_was, .ref q_t_saved, .ref q_t_isThere, .ref q_t_forms, .ref q_t_sizes, .ref q_t_items, .ref q_t_moved, .int t_finding])), (q_t_isThere, .inl (cZ, 4, .inl (upd t_isThere p1.toNatClampNeg (vp_nar .boolean (0 : Int32))))), (q_t_sizes, .inl (cI, 4, .inl t_sizes))]) S hK hw 1 1 b6 dX7_lose_31 rfl rfl rfl (fun H locs hw => ?_)
      refine lv_aload_n hx hb dX7_lose_32 rfl (lv_at hl 0 rfl) ?_
      refine g_get (ci := 7) (C := RX7) (T := TX7) (N := 22) S hinX7 hK hw 0 18 k57 dX7_lose_33 rfl rfl (by decide) rfl ?_
      refine lv_iload_n hx hb dX7_lose_36 rfl (lv_at hl 1 rfl) ?_
      obtain ⟨b7, hf⟩ := ck_some hf
      refine g_iald S hK hw 2 0 b7 dX7_lose_37 rfl rfl ?_
      obtain ⟨rfl, rfl, rfl⟩ := pr3 (Option.some.inj hf)
      exact rt_i S hr hlk hw dX7_lose_38
    · have hf := (if_pos c5).symm.trans hf
      refine lv_aload_n hx hb dX7_lose_19 rfl (lv_at hl 0 rfl) ?_
      refine lv_iconst (v := (1 : Int32)) hx hb dX7_lose_20 (by decide) ?_
      obtain ⟨r8, u9, h10, hf⟩ := bd2_some hf
      refine cl_i (wr := [(q_t_isThere, .inl (cZ, 4, .inl t_isThere)), (q_t_sizes, .inl (cI, 4, .inl t_sizes))]) (ws' := [(q_t, .inr (7, [.ref q_t_boxes, .ref q_t_next, .int t_done, .ref q_t_left, .ref q_t_pairs, .int t_many, .ref q_t_lengths, .ref q_t_riggings, .int t_told, .ref q_t_toldLength, .ref q_t_toldRigging, .ref q_t_toldRoom, .int t_ringN, .ref q_t_ring, .ref q_t_was, .ref q_t_saved, .ref q_t_isThere, .ref q_t_forms, .ref q_t_sizes, .ref q_t_items, .ref q_t_moved, .int u9])), (q_t_isThere, .inl (cZ, 4, .inl t_isThere)), (q_t_sizes, .inl (cI, 4, .inl t_sizes))]) hA hw [0] [1, 2] [2, 0, 1] rfl rfl rfl (by decide) rfl rfl (va_runV (As := [.int (1 : Int32)]) (rest := []) S (c_X7_meets l D cI cZ cJ cO _ q_t q_t_boxes q_t_next q_t_left q_t_pairs q_t_lengths q_t_riggings q_t_toldLength q_t_toldRigging q_t_toldRoom q_t_ring q_t_was q_t_saved q_t_isThere q_t_forms q_t_sizes q_t_items q_t_moved N (1 : Int32) t_done t_many t_told t_ringN t_finding r8 u9 h10) (cwV 1 hts gX7_lose_X7_meets rfl rfl rfl (by decide +kernel) ⟨Nat.le_of_ble_eq_true rfl, Nat.le_of_ble_eq_true rfl⟩) (pre_V hK hN hw [0] rfl rfl (C := RX7) (T := TX7) (N := 22) (ci := 7) (q0 := 0) rfl rfl) rfl rfl hl.1 rfl (lv_room (Nat.le_of_ble_eq_true rfl)) dX7_lose_21 ⟨Nat.zero_le _, Nat.zero_le _⟩) (fun H locs hw => ?_)
      obtain ⟨rfl, rfl, rfl⟩ := pr3 (Option.some.inj hf)
      exact rt_i S hr hlk hw dX7_lose_24
  · have hf := (if_pos c3).symm.trans hf
    refine lv_bipush (v := (-2 : Int32)) hx hb dX7_lose_7 (by decide) ?_
    obtain ⟨rfl, rfl, rfl⟩ := pr3 (Option.some.inj hf)
    exact rt_i S hr hlk hw dX7_lose_9

def f_X7_lacks (N : Nat) (p1 : Int32) (p2 : Int32) (p3 : Int32) (t_isThere : (Nat → Int32)) (t_forms : (Nat → Int32)) (t_sizes : (Nat → Int32)) : Option (Int32) :=
  (ck (inb p1 4) (if (t_isThere p1.toNatClampNeg) = (0 : Int32) then (some (1 : Int32)) else (ck (inb p1 4) (if (t_forms p1.toNatClampNeg) = p2 then (ck (inb p1 4) (bd1 (f_X7_in N p3 (0 : Int32) ((t_sizes p1.toNatClampNeg) - (1 : Int32))) (fun r6 => (if r6 = (0 : Int32) then (some (2 : Int32)) else (some (0 : Int32)))))) else (some (3 : Int32))))))

set_option maxHeartbeats 4000000 in
set_option maxRecDepth 100000 in
theorem c_X7_lacks (l : Launch) (D : va_G) (cI cZ cJ cO : ClassId) (sz : Nat) (q_t q_t_boxes q_t_next q_t_left q_t_pairs q_t_lengths q_t_riggings q_t_toldLength q_t_toldRigging q_t_toldRoom q_t_ring q_t_was q_t_saved q_t_isThere q_t_forms q_t_sizes q_t_items q_t_moved : Nat) (N : Nat) (p1 : Int32) (p2 : Int32) (p3 : Int32) (t_done : Int32) (t_many : Int32) (t_told : Int32) (t_ringN : Int32) (t_finding : Int32) (t_isThere : (Nat → Int32)) (t_forms : (Nat → Int32)) (t_sizes : (Nat → Int32)) (r : Int32) (hf : f_X7_lacks N p1 p2 p3 t_isThere t_forms t_sizes = some r) : Met l yX7_lacks wsX7_lacks ({ frames := 1, cells := 0, slots := 0, locals := 22 }) (PreC D (TY cI cZ cJ cO) [.ref q_t, .int p1, .int p2, .int p3] [(q_t, .inr (7, [.ref q_t_boxes, .ref q_t_next, .int t_done, .ref q_t_left, .ref q_t_pairs, .int t_many, .ref q_t_lengths, .ref q_t_riggings, .int t_told, .ref q_t_toldLength, .ref q_t_toldRigging, .ref q_t_toldRoom, .int t_ringN, .ref q_t_ring, .ref q_t_was, .ref q_t_saved, .ref q_t_isThere, .ref q_t_forms, .ref q_t_sizes, .ref q_t_items, .ref q_t_moved, .int t_finding])), (q_t_isThere, .inl (cZ, 4, .inl t_isThere)), (q_t_forms, .inl (cI, 4, .inl t_forms)), (q_t_sizes, .inl (cI, 4, .inl t_sizes))] sz) (QcI D [(q_t, .inr (7, [.ref q_t_boxes, .ref q_t_next, .int t_done, .ref q_t_left, .ref q_t_pairs, .int t_many, .ref q_t_lengths, .ref q_t_riggings, .int t_told, .ref q_t_toldLength, .ref q_t_toldRigging, .ref q_t_toldRoom, .int t_ringN, .ref q_t_ring, .ref q_t_was, .ref q_t_saved, .ref q_t_isThere, .ref q_t_forms, .ref q_t_sizes, .ref q_t_items, .ref q_t_moved, .int t_finding])), (q_t_isThere, .inl (cZ, 4, .inl t_isThere)), (q_t_forms, .inl (cI, 4, .inl t_forms)), (q_t_sizes, .inl (cI, 4, .inl t_sizes))] (va_A [(q_t, .inr (7, [.ref q_t_boxes, .ref q_t_next, .int t_done, .ref q_t_left, .ref q_t_pairs, .int t_many, .ref q_t_lengths, .ref q_t_riggings, .int t_told, .ref q_t_toldLength, .ref q_t_toldRigging, .ref q_t_toldRoom, .int t_ringN, .ref q_t_ring, .ref q_t_was, .ref q_t_saved, .ref q_t_isThere, .ref q_t_forms, .ref q_t_sizes, .ref q_t_items, .ref q_t_moved, .int t_finding])), (q_t_isThere, .inl (cZ, 4, .inl t_isThere)), (q_t_forms, .inl (cI, 4, .inl t_forms)), (q_t_sizes, .inl (cI, 4, .inl t_sizes))] sz) r) 0 0 (va_A [(q_t, .inr (7, [.ref q_t_boxes, .ref q_t_next, .int t_done, .ref q_t_left, .ref q_t_pairs, .int t_many, .ref q_t_lengths, .ref q_t_riggings, .int t_told, .ref q_t_toldLength, .ref q_t_toldRigging, .ref q_t_toldRoom, .int t_ringN, .ref q_t_ring, .ref q_t_was, .ref q_t_saved, .ref q_t_isThere, .ref q_t_forms, .ref q_t_sizes, .ref q_t_items, .ref q_t_moved, .int t_finding])), (q_t_isThere, .inl (cZ, 4, .inl t_isThere)), (q_t_forms, .inl (cI, 4, .inl t_forms)), (q_t_sizes, .inl (cI, 4, .inl t_sizes))] sz) := by
  refine ctr (cc := cX7_lacks) (maxL := 4) (ret := (some .int)) (by decide) rfl (Nat.le_of_ble_eq_true rfl) ?_
  intro p e s m below meth c S hr hlk hnm hK hN hsz hA hw ls hl
  generalize va_A [(q_t, .inr (7, [.ref q_t_boxes, .ref q_t_next, .int t_done, .ref q_t_left, .ref q_t_pairs, .int t_many, .ref q_t_lengths, .ref q_t_riggings, .int t_told, .ref q_t_toldLength, .ref q_t_toldRigging, .ref q_t_toldRoom, .int t_ringN, .ref q_t_ring, .ref q_t_was, .ref q_t_saved, .ref q_t_isThere, .ref q_t_forms, .ref q_t_sizes, .ref q_t_items, .ref q_t_moved, .int t_finding])), (q_t_isThere, .inl (cZ, 4, .inl t_isThere)), (q_t_forms, .inl (cI, 4, .inl t_forms)), (q_t_sizes, .inl (cI, 4, .inl t_sizes))] sz = A at hA hw ⊢
  have S : CallFix p m c cX7_lacks 4 s ([.ref q_t, .int p1, .int p2, .int p3] : List Value).toArray wsX7_lacks RX7 := S
  have hx := S.1
  have hb := S.2.1
  have hts := S.2.2.2.2
  have hl : lv_has ls 4 [(0, .ref q_t), (1, .int p1), (2, .int p2), (3, .int p3)] := hl
  have hinX7 : ∀ w ∈ u_ws RX7 TX7 22, w ∈ wsX7_lacks := by decide +kernel
  have k51 : Cond.fieldLink RX7 51 "BallBoxesModel" "isThere" "[Z" ∈ wsX7_lacks := by decide +kernel
  have k54 : Cond.fieldLink RX7 54 "BallBoxesModel" "forms" "[I" ∈ wsX7_lacks := by decide +kernel
  have k57 : Cond.fieldLink RX7 57 "BallBoxesModel" "sizes" "[I" ∈ wsX7_lacks := by decide +kernel
  unfold f_X7_lacks at hf
  refine lv_aload_n hx hb dX7_lacks_0 rfl (lv_at hl 0 rfl) ?_
  refine g_get (ci := 7) (C := RX7) (T := TX7) (N := 22) S hinX7 hK hw 0 16 k51 dX7_lacks_1 rfl rfl (by decide) rfl ?_
  refine lv_iload_n hx hb dX7_lacks_4 rfl (lv_at hl 1 rfl) ?_
  obtain ⟨b1, hf⟩ := ck_some hf
  refine g_zald S hK hw 1 1 b1 dX7_lacks_5 rfl rfl ?_
  refine lv_if_ne (tgt := 13) hx hb dX7_lacks_6 (by decide) (fun c2 => ?_) (fun c2 => ?_)
  · have hf := (if_neg c2).symm.trans hf
    refine lv_aload_n hx hb dX7_lacks_13 rfl (lv_at hl 0 rfl) ?_
    refine g_get (ci := 7) (C := RX7) (T := TX7) (N := 22) S hinX7 hK hw 0 17 k54 dX7_lacks_14 rfl rfl (by decide) rfl ?_
    refine lv_iload_n hx hb dX7_lacks_17 rfl (lv_at hl 1 rfl) ?_
    obtain ⟨b3, hf⟩ := ck_some hf
    refine g_iald S hK hw 2 0 b3 dX7_lacks_18 rfl rfl ?_
    refine lv_iload_n hx hb dX7_lacks_19 rfl (lv_at hl 2 rfl) ?_
    refine lv_icmp_eq (tgt := 27) hx hb dX7_lacks_20 (by decide) (fun c4 => ?_) (fun c4 => ?_)
    · have hf := (if_pos c4).symm.trans hf
      refine lv_iload_n hx hb dX7_lacks_27 rfl (lv_at hl 3 rfl) ?_
      refine lv_iconst (v := (0 : Int32)) hx hb dX7_lacks_28 (by decide) ?_
      refine lv_aload_n hx hb dX7_lacks_29 rfl (lv_at hl 0 rfl) ?_
      refine g_get (ci := 7) (C := RX7) (T := TX7) (N := 22) S hinX7 hK hw 0 18 k57 dX7_lacks_30 rfl rfl (by decide) rfl ?_
      refine lv_iload_n hx hb dX7_lacks_33 rfl (lv_at hl 1 rfl) ?_
      obtain ⟨b5, hf⟩ := ck_some hf
      refine g_iald S hK hw 3 0 b5 dX7_lacks_34 rfl rfl ?_
      refine lv_iconst (v := (1 : Int32)) hx hb dX7_lacks_35 (by decide) ?_
      refine lv_isub hx hb dX7_lacks_36 ?_
      obtain ⟨r6, h7, hf⟩ := bd1_some hf
      refine cl_i (wr := [(q_t, .inr (7, [.ref q_t_boxes, .ref q_t_next, .int t_done, .ref q_t_left, .ref q_t_pairs, .int t_many, .ref q_t_lengths, .ref q_t_riggings, .int t_told, .ref q_t_toldLength, .ref q_t_toldRigging, .ref q_t_toldRoom, .int t_ringN, .ref q_t_ring, .ref q_t_was, .ref q_t_saved, .ref q_t_isThere, .ref q_t_forms, .ref q_t_sizes, .ref q_t_items, .ref q_t_moved, .int t_finding])), (q_t_isThere, .inl (cZ, 4, .inl t_isThere)), (q_t_forms, .inl (cI, 4, .inl t_forms)), (q_t_sizes, .inl (cI, 4, .inl t_sizes))]) (ws' := [(q_t, .inr (7, [.ref q_t_boxes, .ref q_t_next, .int t_done, .ref q_t_left, .ref q_t_pairs, .int t_many, .ref q_t_lengths, .ref q_t_riggings, .int t_told, .ref q_t_toldLength, .ref q_t_toldRigging, .ref q_t_toldRoom, .int t_ringN, .ref q_t_ring, .ref q_t_was, .ref q_t_saved, .ref q_t_isThere, .ref q_t_forms, .ref q_t_sizes, .ref q_t_items, .ref q_t_moved, .int t_finding])), (q_t_isThere, .inl (cZ, 4, .inl t_isThere)), (q_t_forms, .inl (cI, 4, .inl t_forms)), (q_t_sizes, .inl (cI, 4, .inl t_sizes))]) hA hw [] [0, 1, 2, 3] [0, 1, 2, 3] rfl rfl rfl (by decide) rfl rfl (va_runS (As := [.int p3, .int (0 : Int32), .int ((t_sizes p1.toNatClampNeg) - (1 : Int32))]) (rest := []) S (c_X7_in l D cI cZ cJ cO _ N p3 (0 : Int32) ((t_sizes p1.toNatClampNeg) - (1 : Int32)) r6 h7) (va_cwS 3 hts gX7_lacks_X7_in rfl rfl rfl (by decide +kernel) ⟨Nat.le_of_ble_eq_true rfl, Nat.le_of_ble_eq_true rfl⟩) (pre_S hK hN hw [] rfl rfl) rfl rfl hl.1 rfl (lv_room (Nat.le_of_ble_eq_true rfl)) dX7_lacks_37 ⟨Nat.zero_le _, Nat.zero_le _⟩) (fun H locs hw => ?_)
      refine lv_if_eq (tgt := 47) hx hb dX7_lacks_40 (by decide) (fun c8 => ?_) (fun c8 => ?_)
      · have hf := (if_pos c8).symm.trans hf
        refine lv_iconst (v := (2 : Int32)) hx hb dX7_lacks_47 (by decide) ?_
        obtain rfl := Option.some.inj hf
        exact rt_i S hr hlk hw dX7_lacks_48
      · have hf := (if_neg c8).symm.trans hf
        refine lv_iconst (v := (0 : Int32)) hx hb dX7_lacks_43 (by decide) ?_
        refine lv_goto (tgt := 48) hx hb dX7_lacks_44 (by decide) ?_
        obtain rfl := Option.some.inj hf
        exact rt_i S hr hlk hw dX7_lacks_48
    · have hf := (if_neg c4).symm.trans hf
      refine lv_iconst (v := (3 : Int32)) hx hb dX7_lacks_23 (by decide) ?_
      refine lv_goto (tgt := 48) hx hb dX7_lacks_24 (by decide) ?_
      obtain rfl := Option.some.inj hf
      exact rt_i S hr hlk hw dX7_lacks_48
  · have hf := (if_pos c2).symm.trans hf
    refine lv_iconst (v := (1 : Int32)) hx hb dX7_lacks_9 (by decide) ?_
    refine lv_goto (tgt := 48) hx hb dX7_lacks_10 (by decide) ?_
    obtain rfl := Option.some.inj hf
    exact rt_i S hr hlk hw dX7_lacks_48

def f_X7_put (N : Nat) (p1 : Int32) (p2 : Int32) (p3 : Int32) (p4 : Int32) (t_finding : Int32) (t_isThere : (Nat → Int32)) (t_forms : (Nat → Int32)) (t_sizes : (Nat → Int32)) (t_items : (Nat → Int32)) : Option (Int32 × Int32 × (Nat → Int32)) :=
  (bd1 (f_X7_isSheet N p1) (fun r1 => (if r1 = (0 : Int32) then (some ((-2 : Int32), t_finding, t_items)) else (bd1 (f_X7_in N p2 (0 : Int32) (2 : Int32)) (fun r4 => (if r4 = (0 : Int32) then (some ((-2 : Int32), t_finding, t_items)) else (bd1 (f_X7_lacks N p1 p2 p3 t_isThere t_forms t_sizes) (fun r7 => (if r7 ≤ (0 : Int32) then (if p2 = (0 : Int32) then (ck (inb (((100 : Int32) * p1) + p3) 400) (some ((1 : Int32), t_finding, (upd t_items (((100 : Int32) * p1) + p3).toNatClampNeg p4.toInt8.toInt32)))) else (if p2 = (1 : Int32) then (ck (inb (((100 : Int32) * p1) + p3) 400) (some ((1 : Int32), t_finding, (upd t_items (((100 : Int32) * p1) + p3).toNatClampNeg p4.toInt16.toInt32)))) else (ck (inb (((100 : Int32) * p1) + p3) 400) (some ((1 : Int32), t_finding, (upd t_items (((100 : Int32) * p1) + p3).toNatClampNeg p4)))))) else (bd2 (f_X7_meets N r7 t_finding) (fun r15 u16 => (some (r15, u16, t_items)))))))))))))

set_option maxHeartbeats 4000000 in
set_option maxRecDepth 100000 in
theorem c_X7_put (l : Launch) (D : va_G) (cI cZ cJ cO : ClassId) (sz : Nat) (q_t q_t_boxes q_t_next q_t_left q_t_pairs q_t_lengths q_t_riggings q_t_toldLength q_t_toldRigging q_t_toldRoom q_t_ring q_t_was q_t_saved q_t_isThere q_t_forms q_t_sizes q_t_items q_t_moved : Nat) (N : Nat) (p1 : Int32) (p2 : Int32) (p3 : Int32) (p4 : Int32) (t_done : Int32) (t_many : Int32) (t_told : Int32) (t_ringN : Int32) (t_finding : Int32) (t_isThere : (Nat → Int32)) (t_forms : (Nat → Int32)) (t_sizes : (Nat → Int32)) (t_items : (Nat → Int32)) (r : Int32) (o_t_finding : Int32) (o_t_items : (Nat → Int32)) (hf : f_X7_put N p1 p2 p3 p4 t_finding t_isThere t_forms t_sizes t_items = some (r, o_t_finding, o_t_items)) : Met l yX7_put wsX7_put ({ frames := 2, cells := 0, slots := 0, locals := 45 }) (PreC D (TY cI cZ cJ cO) [.ref q_t, .int p1, .int p2, .int p3, .int p4] [(q_t, .inr (7, [.ref q_t_boxes, .ref q_t_next, .int t_done, .ref q_t_left, .ref q_t_pairs, .int t_many, .ref q_t_lengths, .ref q_t_riggings, .int t_told, .ref q_t_toldLength, .ref q_t_toldRigging, .ref q_t_toldRoom, .int t_ringN, .ref q_t_ring, .ref q_t_was, .ref q_t_saved, .ref q_t_isThere, .ref q_t_forms, .ref q_t_sizes, .ref q_t_items, .ref q_t_moved, .int t_finding])), (q_t_isThere, .inl (cZ, 4, .inl t_isThere)), (q_t_forms, .inl (cI, 4, .inl t_forms)), (q_t_sizes, .inl (cI, 4, .inl t_sizes)), (q_t_items, .inl (cI, 400, .inl t_items))] sz) (QcI D [(q_t, .inr (7, [.ref q_t_boxes, .ref q_t_next, .int t_done, .ref q_t_left, .ref q_t_pairs, .int t_many, .ref q_t_lengths, .ref q_t_riggings, .int t_told, .ref q_t_toldLength, .ref q_t_toldRigging, .ref q_t_toldRoom, .int t_ringN, .ref q_t_ring, .ref q_t_was, .ref q_t_saved, .ref q_t_isThere, .ref q_t_forms, .ref q_t_sizes, .ref q_t_items, .ref q_t_moved, .int o_t_finding])), (q_t_isThere, .inl (cZ, 4, .inl t_isThere)), (q_t_forms, .inl (cI, 4, .inl t_forms)), (q_t_sizes, .inl (cI, 4, .inl t_sizes)), (q_t_items, .inl (cI, 400, .inl o_t_items))] (va_A [(q_t, .inr (7, [.ref q_t_boxes, .ref q_t_next, .int t_done, .ref q_t_left, .ref q_t_pairs, .int t_many, .ref q_t_lengths, .ref q_t_riggings, .int t_told, .ref q_t_toldLength, .ref q_t_toldRigging, .ref q_t_toldRoom, .int t_ringN, .ref q_t_ring, .ref q_t_was, .ref q_t_saved, .ref q_t_isThere, .ref q_t_forms, .ref q_t_sizes, .ref q_t_items, .ref q_t_moved, .int t_finding])), (q_t_isThere, .inl (cZ, 4, .inl t_isThere)), (q_t_forms, .inl (cI, 4, .inl t_forms)), (q_t_sizes, .inl (cI, 4, .inl t_sizes)), (q_t_items, .inl (cI, 400, .inl t_items))] sz) r) 0 0 (va_A [(q_t, .inr (7, [.ref q_t_boxes, .ref q_t_next, .int t_done, .ref q_t_left, .ref q_t_pairs, .int t_many, .ref q_t_lengths, .ref q_t_riggings, .int t_told, .ref q_t_toldLength, .ref q_t_toldRigging, .ref q_t_toldRoom, .int t_ringN, .ref q_t_ring, .ref q_t_was, .ref q_t_saved, .ref q_t_isThere, .ref q_t_forms, .ref q_t_sizes, .ref q_t_items, .ref q_t_moved, .int t_finding])), (q_t_isThere, .inl (cZ, 4, .inl t_isThere)), (q_t_forms, .inl (cI, 4, .inl t_forms)), (q_t_sizes, .inl (cI, 4, .inl t_sizes)), (q_t_items, .inl (cI, 400, .inl t_items))] sz) := by
  refine ctr (cc := cX7_put) (maxL := 6) (ret := (some .int)) (by decide) rfl (Nat.le_of_ble_eq_true rfl) ?_
  intro p e s m below meth c S hr hlk hnm hK hN hsz hA hw ls hl
  generalize va_A [(q_t, .inr (7, [.ref q_t_boxes, .ref q_t_next, .int t_done, .ref q_t_left, .ref q_t_pairs, .int t_many, .ref q_t_lengths, .ref q_t_riggings, .int t_told, .ref q_t_toldLength, .ref q_t_toldRigging, .ref q_t_toldRoom, .int t_ringN, .ref q_t_ring, .ref q_t_was, .ref q_t_saved, .ref q_t_isThere, .ref q_t_forms, .ref q_t_sizes, .ref q_t_items, .ref q_t_moved, .int t_finding])), (q_t_isThere, .inl (cZ, 4, .inl t_isThere)), (q_t_forms, .inl (cI, 4, .inl t_forms)), (q_t_sizes, .inl (cI, 4, .inl t_sizes)), (q_t_items, .inl (cI, 400, .inl t_items))] sz = A at hA hw ⊢
  have S : CallFix p m c cX7_put 6 s ([.ref q_t, .int p1, .int p2, .int p3, .int p4] : List Value).toArray wsX7_put RX7 := S
  have hx := S.1
  have hb := S.2.1
  have hts := S.2.2.2.2
  have hl : lv_has ls 6 [(0, .ref q_t), (1, .int p1), (2, .int p2), (3, .int p3), (4, .int p4)] := hl
  have hinX7 : ∀ w ∈ u_ws RX7 TX7 22, w ∈ wsX7_put := by decide +kernel
  have k60 : Cond.fieldLink RX7 60 "BallBoxesModel" "items" "[I" ∈ wsX7_put := by decide +kernel
  unfold f_X7_put at hf
  refine lv_iload_n hx hb dX7_put_0 rfl (lv_at hl 1 rfl) ?_
  obtain ⟨r1, h2, hf⟩ := bd1_some hf
  refine cl_i (wr := [(q_t, .inr (7, [.ref q_t_boxes, .ref q_t_next, .int t_done, .ref q_t_left, .ref q_t_pairs, .int t_many, .ref q_t_lengths, .ref q_t_riggings, .int t_told, .ref q_t_toldLength, .ref q_t_toldRigging, .ref q_t_toldRoom, .int t_ringN, .ref q_t_ring, .ref q_t_was, .ref q_t_saved, .ref q_t_isThere, .ref q_t_forms, .ref q_t_sizes, .ref q_t_items, .ref q_t_moved, .int t_finding])), (q_t_isThere, .inl (cZ, 4, .inl t_isThere)), (q_t_forms, .inl (cI, 4, .inl t_forms)), (q_t_sizes, .inl (cI, 4, .inl t_sizes)), (q_t_items, .inl (cI, 400, .inl t_items))]) (ws' := [(q_t, .inr (7, [.ref q_t_boxes, .ref q_t_next, .int t_done, .ref q_t_left, .ref q_t_pairs, .int t_many, .ref q_t_lengths, .ref q_t_riggings, .int t_told, .ref q_t_toldLength, .ref q_t_toldRigging, .ref q_t_toldRoom, .int t_ringN, .ref q_t_ring, .ref q_t_was, .ref q_t_saved, .ref q_t_isThere, .ref q_t_forms, .ref q_t_sizes, .ref q_t_items, .ref q_t_moved, .int t_finding])), (q_t_isThere, .inl (cZ, 4, .inl t_isThere)), (q_t_forms, .inl (cI, 4, .inl t_forms)), (q_t_sizes, .inl (cI, 4, .inl t_sizes)), (q_t_items, .inl (cI, 400, .inl t_items))]) hA hw [] [0, 1, 2, 3, 4] [0, 1, 2, 3, 4] rfl rfl rfl (by decide) rfl rfl (va_runS (As := [.int p1]) (rest := []) S (c_X7_isSheet l D cI cZ cJ cO _ N p1 r1 h2) (va_cwS 1 hts gX7_put_X7_isSheet rfl rfl rfl (by decide +kernel) ⟨Nat.le_of_ble_eq_true rfl, Nat.le_of_ble_eq_true rfl⟩) (pre_S hK hN hw [] rfl rfl) rfl rfl hl.1 rfl (lv_room (Nat.le_of_ble_eq_true rfl)) dX7_put_1 ⟨Nat.zero_le _, Nat.zero_le _⟩) (fun H locs hw => ?_)
  refine lv_if_eq (tgt := 16) hx hb dX7_put_4 (by decide) (fun c3 => ?_) (fun c3 => ?_)
  · have hf := (if_pos c3).symm.trans hf
    refine lv_bipush (v := (-2 : Int32)) hx hb dX7_put_16 (by decide) ?_
    obtain ⟨rfl, rfl, rfl⟩ := pr3 (Option.some.inj hf)
    exact rt_i S hr hlk hw dX7_put_18
  · have hf := (if_neg c3).symm.trans hf
    refine lv_iload_n hx hb dX7_put_7 rfl (lv_at hl 2 rfl) ?_
    refine lv_iconst (v := (0 : Int32)) hx hb dX7_put_8 (by decide) ?_
    refine lv_iconst (v := (2 : Int32)) hx hb dX7_put_9 (by decide) ?_
    obtain ⟨r4, h5, hf⟩ := bd1_some hf
    refine cl_i (wr := [(q_t, .inr (7, [.ref q_t_boxes, .ref q_t_next, .int t_done, .ref q_t_left, .ref q_t_pairs, .int t_many, .ref q_t_lengths, .ref q_t_riggings, .int t_told, .ref q_t_toldLength, .ref q_t_toldRigging, .ref q_t_toldRoom, .int t_ringN, .ref q_t_ring, .ref q_t_was, .ref q_t_saved, .ref q_t_isThere, .ref q_t_forms, .ref q_t_sizes, .ref q_t_items, .ref q_t_moved, .int t_finding])), (q_t_isThere, .inl (cZ, 4, .inl t_isThere)), (q_t_forms, .inl (cI, 4, .inl t_forms)), (q_t_sizes, .inl (cI, 4, .inl t_sizes)), (q_t_items, .inl (cI, 400, .inl t_items))]) (ws' := [(q_t, .inr (7, [.ref q_t_boxes, .ref q_t_next, .int t_done, .ref q_t_left, .ref q_t_pairs, .int t_many, .ref q_t_lengths, .ref q_t_riggings, .int t_told, .ref q_t_toldLength, .ref q_t_toldRigging, .ref q_t_toldRoom, .int t_ringN, .ref q_t_ring, .ref q_t_was, .ref q_t_saved, .ref q_t_isThere, .ref q_t_forms, .ref q_t_sizes, .ref q_t_items, .ref q_t_moved, .int t_finding])), (q_t_isThere, .inl (cZ, 4, .inl t_isThere)), (q_t_forms, .inl (cI, 4, .inl t_forms)), (q_t_sizes, .inl (cI, 4, .inl t_sizes)), (q_t_items, .inl (cI, 400, .inl t_items))]) hA hw [] [0, 1, 2, 3, 4] [0, 1, 2, 3, 4] rfl rfl rfl (by decide) rfl rfl (va_runS (As := [.int p2, .int (0 : Int32), .int (2 : Int32)]) (rest := []) S (c_X7_in l D cI cZ cJ cO _ N p2 (0 : Int32) (2 : Int32) r4 h5) (va_cwS 3 hts gX7_put_X7_in rfl rfl rfl (by decide +kernel) ⟨Nat.le_of_ble_eq_true rfl, Nat.le_of_ble_eq_true rfl⟩) (pre_S hK hN hw [] rfl rfl) rfl rfl hl.1 rfl (lv_room (Nat.le_of_ble_eq_true rfl)) dX7_put_10 ⟨Nat.zero_le _, Nat.zero_le _⟩) (fun H locs hw => ?_)
    refine lv_if_ne (tgt := 19) hx hb dX7_put_13 (by decide) (fun c6 => ?_) (fun c6 => ?_)
    · have hf := (if_neg c6).symm.trans hf
      refine lv_aload_n hx hb dX7_put_19 rfl (lv_at hl 0 rfl) ?_
      refine lv_iload_n hx hb dX7_put_20 rfl (lv_at hl 1 rfl) ?_
      refine lv_iload_n hx hb dX7_put_21 rfl (lv_at hl 2 rfl) ?_
      refine lv_iload_n hx hb dX7_put_22 rfl (lv_at hl 3 rfl) ?_
      obtain ⟨r7, h8, hf⟩ := bd1_some hf
      refine cl_i (wr := [(q_t_items, .inl (cI, 400, .inl t_items))]) (ws' := [(q_t, .inr (7, [.ref q_t_boxes, .ref q_t_next, .int t_done, .ref q_t_left, .ref q_t_pairs, .int t_many, .ref q_t_lengths, .ref q_t_riggings, .int t_told, .ref q_t_toldLength, .ref q_t_toldRigging, .ref q_t_toldRoom, .int t_ringN, .ref q_t_ring, .ref q_t_was, .ref q_t_saved, .ref q_t_isThere, .ref q_t_forms, .ref q_t_sizes, .ref q_t_items, .ref q_t_moved, .int t_finding])), (q_t_isThere, .inl (cZ, 4, .inl t_isThere)), (q_t_forms, .inl (cI, 4, .inl t_forms)), (q_t_sizes, .inl (cI, 4, .inl t_sizes)), (q_t_items, .inl (cI, 400, .inl t_items))]) hA hw [0, 1, 2, 3] [4] [1, 2, 3, 4, 0] rfl rfl rfl (by decide) rfl rfl (va_runV (As := [.int p1, .int p2, .int p3]) (rest := []) S (c_X7_lacks l D cI cZ cJ cO _ q_t q_t_boxes q_t_next q_t_left q_t_pairs q_t_lengths q_t_riggings q_t_toldLength q_t_toldRigging q_t_toldRoom q_t_ring q_t_was q_t_saved q_t_isThere q_t_forms q_t_sizes q_t_items q_t_moved N p1 p2 p3 t_done t_many t_told t_ringN t_finding t_isThere t_forms t_sizes r7 h8) (cwV 3 hts gX7_put_X7_lacks rfl rfl rfl (by decide +kernel) ⟨Nat.le_of_ble_eq_true rfl, Nat.le_of_ble_eq_true rfl⟩) (pre_V hK hN hw [0, 1, 2, 3] rfl rfl (C := RX7) (T := TX7) (N := 22) (ci := 7) (q0 := 0) rfl rfl) rfl rfl hl.1 rfl (lv_room (Nat.le_of_ble_eq_true rfl)) dX7_put_23 ⟨Nat.zero_le _, Nat.zero_le _⟩) (fun H locs hw => ?_)
      refine lv_istore (lv' := [(5, .int r7), (0, .ref q_t), (1, .int p1), (2, .int p2), (3, .int p3), (4, .int p4)]) hx hb dX7_put_26 hl (by decide) rfl (fun ls hl => ?_)
      refine lv_iload hx hb dX7_put_28 (lv_at hl 0 rfl) ?_
      refine lv_if_le (tgt := 40) hx hb dX7_put_30 (by decide) (fun c9 => ?_) (fun c9 => ?_)
      · have hf := (if_pos c9).symm.trans hf
        refine lv_aload_n hx hb dX7_put_40 rfl (lv_at hl 1 rfl) ?_
        refine g_get (ci := 7) (C := RX7) (T := TX7) (N := 22) S hinX7 hK hw 0 19 k60 dX7_put_41 rfl rfl (by decide) rfl ?_
        refine lv_bipush (v := (100 : Int32)) hx hb dX7_put_44 (by decide) ?_
        refine lv_iload_n hx hb dX7_put_46 rfl (lv_at hl 2 rfl) ?_
        refine lv_imul hx hb dX7_put_47 ?_
        refine lv_iload_n hx hb dX7_put_48 rfl (lv_at hl 4 rfl) ?_
        refine lv_iadd hx hb dX7_put_49 ?_
        refine lv_iload_n hx hb dX7_put_50 rfl (lv_at hl 3 rfl) ?_
        refine lv_if_ne (tgt := 60) hx hb dX7_put_51 (by decide) (fun c10 => ?_) (fun c10 => ?_)
        · have hf := (if_neg c10).symm.trans hf
          refine lv_iload_n hx hb dX7_put_60 rfl (lv_at hl 3 rfl) ?_
          refine lv_iconst (v := (1 : Int32)) hx hb dX7_put_61 (by decide) ?_
          refine lv_icmp_ne (tgt := 71) hx hb dX7_put_62 (by decide) (fun c11 => ?_) (fun c11 => ?_)
          · have hf := (if_neg c11).symm.trans hf
            refine lv_iload hx hb dX7_put_71 (lv_at hl 5 rfl) ?_
            obtain ⟨b12, hf⟩ := ck_some hf
            refine g_iast (ws' := [(q_t, .inr (7, [.ref q_t_boxes, .ref q_t_next, .int t_done, .ref q_t_left, .ref q_t_pairs, .int t_many, .ref q_t_lengths, .ref q_t_riggings, .int t_told, .ref q_t_toldLength, .ref q_t_toldRigging, .ref q_t_toldRoom, .int t_ringN, .ref q_t_ring, .ref q_t_was, .ref q_t_saved, .ref q_t_isThere, .ref q_t_forms, .ref q_t_sizes, .ref q_t_items, .ref q_t_moved, .int t_finding])), (q_t_isThere, .inl (cZ, 4, .inl t_isThere)), (q_t_forms, .inl (cI, 4, .inl t_forms)), (q_t_sizes, .inl (cI, 4, .inl t_sizes)), (q_t_items, .inl (cI, 400, .inl (upd t_items (((100 : Int32) * p1) + p3).toNatClampNeg p4)))]) S hK hw 4 0 b12 dX7_put_73 rfl rfl rfl (fun H locs hw => ?_)
            refine lv_iconst (v := (1 : Int32)) hx hb dX7_put_74 (by decide) ?_
            obtain ⟨rfl, rfl, rfl⟩ := pr3 (Option.some.inj hf)
            exact rt_i S hr hlk hw dX7_put_75
          · have hf := (if_pos c11).symm.trans hf
            refine lv_iload hx hb dX7_put_65 (lv_at hl 5 rfl) ?_
            refine lv_i2s (v := p4.toInt16.toInt32) hx hb dX7_put_67 rfl ?_
            refine lv_goto (tgt := 73) hx hb dX7_put_68 (by decide) ?_
            obtain ⟨b13, hf⟩ := ck_some hf
            refine g_iast (ws' := [(q_t, .inr (7, [.ref q_t_boxes, .ref q_t_next, .int t_done, .ref q_t_left, .ref q_t_pairs, .int t_many, .ref q_t_lengths, .ref q_t_riggings, .int t_told, .ref q_t_toldLength, .ref q_t_toldRigging, .ref q_t_toldRoom, .int t_ringN, .ref q_t_ring, .ref q_t_was, .ref q_t_saved, .ref q_t_isThere, .ref q_t_forms, .ref q_t_sizes, .ref q_t_items, .ref q_t_moved, .int t_finding])), (q_t_isThere, .inl (cZ, 4, .inl t_isThere)), (q_t_forms, .inl (cI, 4, .inl t_forms)), (q_t_sizes, .inl (cI, 4, .inl t_sizes)), (q_t_items, .inl (cI, 400, .inl (upd t_items (((100 : Int32) * p1) + p3).toNatClampNeg p4.toInt16.toInt32)))]) S hK hw 4 0 b13 dX7_put_73 rfl rfl rfl (fun H locs hw => ?_)
            refine lv_iconst (v := (1 : Int32)) hx hb dX7_put_74 (by decide) ?_
            obtain ⟨rfl, rfl, rfl⟩ := pr3 (Option.some.inj hf)
            exact rt_i S hr hlk hw dX7_put_75
        · have hf := (if_pos c10).symm.trans hf
          refine lv_iload hx hb dX7_put_54 (lv_at hl 5 rfl) ?_
          refine lv_i2b (v := p4.toInt8.toInt32) hx hb dX7_put_56 rfl ?_
          refine lv_goto (tgt := 73) hx hb dX7_put_57 (by decide) ?_
          obtain ⟨b14, hf⟩ := ck_some hf
          refine g_iast (ws' := [(q_t, .inr (7, [.ref q_t_boxes, .ref q_t_next, .int t_done, .ref q_t_left, .ref q_t_pairs, .int t_many, .ref q_t_lengths, .ref q_t_riggings, .int t_told, .ref q_t_toldLength, .ref q_t_toldRigging, .ref q_t_toldRoom, .int t_ringN, .ref q_t_ring, .ref q_t_was, .ref q_t_saved, .ref q_t_isThere, .ref q_t_forms, .ref q_t_sizes, .ref q_t_items, .ref q_t_moved, .int t_finding])), (q_t_isThere, .inl (cZ, 4, .inl t_isThere)), (q_t_forms, .inl (cI, 4, .inl t_forms)), (q_t_sizes, .inl (cI, 4, .inl t_sizes)), (q_t_items, .inl (cI, 400, .inl (upd t_items (((100 : Int32) * p1) + p3).toNatClampNeg p4.toInt8.toInt32)))]) S hK hw 4 0 b14 dX7_put_73 rfl rfl rfl (fun H locs hw => ?_)
          refine lv_iconst (v := (1 : Int32)) hx hb dX7_put_74 (by decide) ?_
          obtain ⟨rfl, rfl, rfl⟩ := pr3 (Option.some.inj hf)
          exact rt_i S hr hlk hw dX7_put_75
      · have hf := (if_neg c9).symm.trans hf
        refine lv_aload_n hx hb dX7_put_33 rfl (lv_at hl 1 rfl) ?_
        refine lv_iload hx hb dX7_put_34 (lv_at hl 0 rfl) ?_
        obtain ⟨r15, u16, h17, hf⟩ := bd2_some hf
        refine cl_i (wr := [(q_t_isThere, .inl (cZ, 4, .inl t_isThere)), (q_t_forms, .inl (cI, 4, .inl t_forms)), (q_t_sizes, .inl (cI, 4, .inl t_sizes)), (q_t_items, .inl (cI, 400, .inl t_items))]) (ws' := [(q_t, .inr (7, [.ref q_t_boxes, .ref q_t_next, .int t_done, .ref q_t_left, .ref q_t_pairs, .int t_many, .ref q_t_lengths, .ref q_t_riggings, .int t_told, .ref q_t_toldLength, .ref q_t_toldRigging, .ref q_t_toldRoom, .int t_ringN, .ref q_t_ring, .ref q_t_was, .ref q_t_saved, .ref q_t_isThere, .ref q_t_forms, .ref q_t_sizes, .ref q_t_items, .ref q_t_moved, .int u16])), (q_t_isThere, .inl (cZ, 4, .inl t_isThere)), (q_t_forms, .inl (cI, 4, .inl t_forms)), (q_t_sizes, .inl (cI, 4, .inl t_sizes)), (q_t_items, .inl (cI, 400, .inl t_items))]) hA hw [0] [1, 2, 3, 4] [4, 0, 1, 2, 3] rfl rfl rfl (by decide) rfl rfl (va_runV (As := [.int r7]) (rest := []) S (c_X7_meets l D cI cZ cJ cO _ q_t q_t_boxes q_t_next q_t_left q_t_pairs q_t_lengths q_t_riggings q_t_toldLength q_t_toldRigging q_t_toldRoom q_t_ring q_t_was q_t_saved q_t_isThere q_t_forms q_t_sizes q_t_items q_t_moved N r7 t_done t_many t_told t_ringN t_finding r15 u16 h17) (cwV 1 hts gX7_put_X7_meets rfl rfl rfl (by decide +kernel) ⟨Nat.le_of_ble_eq_true rfl, Nat.le_of_ble_eq_true rfl⟩) (pre_V hK hN hw [0] rfl rfl (C := RX7) (T := TX7) (N := 22) (ci := 7) (q0 := 0) rfl rfl) rfl rfl hl.1 rfl (lv_room (Nat.le_of_ble_eq_true rfl)) dX7_put_36 ⟨Nat.zero_le _, Nat.zero_le _⟩) (fun H locs hw => ?_)
        obtain ⟨rfl, rfl, rfl⟩ := pr3 (Option.some.inj hf)
        exact rt_i S hr hlk hw dX7_put_39
    · have hf := (if_pos c6).symm.trans hf
      refine lv_bipush (v := (-2 : Int32)) hx hb dX7_put_16 (by decide) ?_
      obtain ⟨rfl, rfl, rfl⟩ := pr3 (Option.some.inj hf)
      exact rt_i S hr hlk hw dX7_put_18
