def f_X7_get (N : Nat) (p1 : Int32) (p2 : Int32) (p3 : Int32) (t_finding : Int32) (t_isThere : (Nat → Int32)) (t_forms : (Nat → Int32)) (t_sizes : (Nat → Int32)) (t_items : (Nat → Int32)) : Option (Int32 × Int32) :=
  (bd1 (f_X7_isSheet N p1) (fun r1 => (if r1 = (0 : Int32) then (some ((-2147483648 : Int32), t_finding)) else (bd1 (f_X7_in N p2 (0 : Int32) (2 : Int32)) (fun r4 => (if r4 = (0 : Int32) then (some ((-2147483648 : Int32), t_finding)) else (bd1 (f_X7_lacks N p1 p2 p3 t_isThere t_forms t_sizes) (fun r7 => (if r7 ≤ (0 : Int32) then (ck (inb (((100 : Int32) * p1) + p3) 400) (some ((t_items (((100 : Int32) * p1) + p3).toNatClampNeg), t_finding))) else (some ((-2147483648 : Int32), r7)))))))))))

set_option maxHeartbeats 4000000 in
set_option maxRecDepth 100000 in
theorem c_X7_get (l : Launch) (D : va_G) (cI cZ cJ cO : ClassId) (sz : Nat) (q_t q_t_boxes q_t_next q_t_left q_t_pairs q_t_lengths q_t_riggings q_t_toldLength q_t_toldRigging q_t_toldRoom q_t_ring q_t_was q_t_saved q_t_isThere q_t_forms q_t_sizes q_t_items q_t_moved : Nat) (N : Nat) (p1 : Int32) (p2 : Int32) (p3 : Int32) (t_done : Int32) (t_many : Int32) (t_told : Int32) (t_ringN : Int32) (t_finding : Int32) (t_isThere : (Nat → Int32)) (t_forms : (Nat → Int32)) (t_sizes : (Nat → Int32)) (t_items : (Nat → Int32)) (r : Int32) (o_t_finding : Int32) (hf : f_X7_get N p1 p2 p3 t_finding t_isThere t_forms t_sizes t_items = some (r, o_t_finding)) : Met l yX7_get wsX7_get ({ frames := 2, cells := 0, slots := 0, locals := 45 }) (PreC D (TY cI cZ cJ cO) [.ref q_t, .int p1, .int p2, .int p3] [(q_t, .inr (7, [.ref q_t_boxes, .ref q_t_next, .int t_done, .ref q_t_left, .ref q_t_pairs, .int t_many, .ref q_t_lengths, .ref q_t_riggings, .int t_told, .ref q_t_toldLength, .ref q_t_toldRigging, .ref q_t_toldRoom, .int t_ringN, .ref q_t_ring, .ref q_t_was, .ref q_t_saved, .ref q_t_isThere, .ref q_t_forms, .ref q_t_sizes, .ref q_t_items, .ref q_t_moved, .int t_finding])), (q_t_isThere, .inl (cZ, 4, .inl t_isThere)), (q_t_forms, .inl (cI, 4, .inl t_forms)), (q_t_sizes, .inl (cI, 4, .inl t_sizes)), (q_t_items, .inl (cI, 400, .inl t_items))] sz) (QcI D [(q_t, .inr (7, [.ref q_t_boxes, .ref q_t_next, .int t_done, .ref q_t_left, .ref q_t_pairs, .int t_many, .ref q_t_lengths, .ref q_t_riggings, .int t_told, .ref q_t_toldLength, .ref q_t_toldRigging, .ref q_t_toldRoom, .int t_ringN, .ref q_t_ring, .ref q_t_was, .ref q_t_saved, .ref q_t_isThere, .ref q_t_forms, .ref q_t_sizes, .ref q_t_items, .ref q_t_moved, .int o_t_finding])), (q_t_isThere, .inl (cZ, 4, .inl t_isThere)), (q_t_forms, .inl (cI, 4, .inl t_forms)), (q_t_sizes, .inl (cI, 4, .inl t_sizes)), (q_t_items, .inl (cI, 400, .inl t_items))] (va_A [(q_t, .inr (7, [.ref q_t_boxes, .ref q_t_next, .int t_done, .ref q_t_left, .ref q_t_pairs, .int t_many, .ref q_t_lengths, .ref q_t_riggings, .int t_told, .ref q_t_toldLength, .ref q_t_toldRigging, .ref q_t_toldRoom, .int t_ringN, .ref q_t_ring, .ref q_t_was, .ref q_t_saved, .ref q_t_isThere, .ref q_t_forms, .ref q_t_sizes, .ref q_t_items, .ref q_t_moved, .int t_finding])), (q_t_isThere, .inl (cZ, 4, .inl t_isThere)), (q_t_forms, .inl (cI, 4, .inl t_forms)), (q_t_sizes, .inl (cI, 4, .inl t_sizes)), (q_t_items, .inl (cI, 400, .inl t_items))] sz) r) 0 0 (va_A [(q_t, .inr (7, [.ref q_t_boxes, .ref q_t_next, .int t_done, .ref q_t_left, .ref q_t_pairs, .int t_many, .ref q_t_lengths, .ref q_t_riggings, .int t_told, .ref q_t_toldLength, .ref q_t_toldRigging, .ref q_t_toldRoom, .int t_ringN, .ref q_t_ring, .ref q_t_was, .ref q_t_saved, .ref q_t_isThere, .ref q_t_forms, .ref q_t_sizes, .ref q_t_items, .ref q_t_moved, .int t_finding])), (q_t_isThere, .inl (cZ, 4, .inl t_isThere)), (q_t_forms, .inl (cI, 4, .inl t_forms)), (q_t_sizes, .inl (cI, 4, .inl t_sizes)), (q_t_items, .inl (cI, 400, .inl t_items))] sz) := by
  refine ctr (cc := cX7_get) (maxL := 5) (ret := (some .int)) (by decide) rfl (Nat.le_of_ble_eq_true rfl) ?_
  intro p e s m below meth c S hr hlk hnm hK hN hsz hA hw ls hl
  generalize va_A [(q_t, .inr (7, [.ref q_t_boxes, .ref q_t_next, .int t_done, .ref q_t_left, .ref q_t_pairs, .int t_many, .ref q_t_lengths, .ref q_t_riggings, .int t_told, .ref q_t_toldLength, .ref q_t_toldRigging, .ref q_t_toldRoom, .int t_ringN, .ref q_t_ring, .ref q_t_was, .ref q_t_saved, .ref q_t_isThere, .ref q_t_forms, .ref q_t_sizes, .ref q_t_items, .ref q_t_moved, .int t_finding])), (q_t_isThere, .inl (cZ, 4, .inl t_isThere)), (q_t_forms, .inl (cI, 4, .inl t_forms)), (q_t_sizes, .inl (cI, 4, .inl t_sizes)), (q_t_items, .inl (cI, 400, .inl t_items))] sz = A at hA hw ⊢
  have S : CallFix p m c cX7_get 5 s ([.ref q_t, .int p1, .int p2, .int p3] : List Value).toArray wsX7_get RX7 := S
  have hx := S.1
  have hb := S.2.1
  have hts := S.2.2.2.2
  have hl : lv_has ls 5 [(0, .ref q_t), (1, .int p1), (2, .int p2), (3, .int p3)] := hl
  have hinX7 : ∀ w ∈ u_ws RX7 TX7 22, w ∈ wsX7_get := by decide +kernel
  have k60 : Cond.fieldLink RX7 60 "BallBoxesModel" "items" "[I" ∈ wsX7_get := by decide +kernel
  have k123 : Cond.fieldLink RX7 123 "BallBoxesModel" "finding" "I" ∈ wsX7_get := by decide +kernel
  unfold f_X7_get at hf
  refine lv_iload_n hx hb dX7_get_0 rfl (lv_at hl 1 rfl) ?_
  obtain ⟨r1, h2, hf⟩ := bd1_some hf
  refine cl_i (wr := [(q_t, .inr (7, [.ref q_t_boxes, .ref q_t_next, .int t_done, .ref q_t_left, .ref q_t_pairs, .int t_many, .ref q_t_lengths, .ref q_t_riggings, .int t_told, .ref q_t_toldLength, .ref q_t_toldRigging, .ref q_t_toldRoom, .int t_ringN, .ref q_t_ring, .ref q_t_was, .ref q_t_saved, .ref q_t_isThere, .ref q_t_forms, .ref q_t_sizes, .ref q_t_items, .ref q_t_moved, .int t_finding])), (q_t_isThere, .inl (cZ, 4, .inl t_isThere)), (q_t_forms, .inl (cI, 4, .inl t_forms)), (q_t_sizes, .inl (cI, 4, .inl t_sizes)), (q_t_items, .inl (cI, 400, .inl t_items))]) (ws' := [(q_t, .inr (7, [.ref q_t_boxes, .ref q_t_next, .int t_done, .ref q_t_left, .ref q_t_pairs, .int t_many, .ref q_t_lengths, .ref q_t_riggings, .int t_told, .ref q_t_toldLength, .ref q_t_toldRigging, .ref q_t_toldRoom, .int t_ringN, .ref q_t_ring, .ref q_t_was, .ref q_t_saved, .ref q_t_isThere, .ref q_t_forms, .ref q_t_sizes, .ref q_t_items, .ref q_t_moved, .int t_finding])), (q_t_isThere, .inl (cZ, 4, .inl t_isThere)), (q_t_forms, .inl (cI, 4, .inl t_forms)), (q_t_sizes, .inl (cI, 4, .inl t_sizes)), (q_t_items, .inl (cI, 400, .inl t_items))]) hA hw [] [0, 1, 2, 3, 4] [0, 1, 2, 3, 4] rfl rfl rfl (by decide) rfl rfl (va_runS (As := [.int p1]) (rest := []) S (c_X7_isSheet l D cI cZ cJ cO _ N p1 r1 h2) (va_cwS 1 hts gX7_get_X7_isSheet rfl rfl rfl (by decide +kernel) ⟨Nat.le_of_ble_eq_true rfl, Nat.le_of_ble_eq_true rfl⟩) (pre_S hK hN hw [] rfl rfl) rfl rfl hl.1 rfl (lv_room (Nat.le_of_ble_eq_true rfl)) dX7_get_1 ⟨Nat.zero_le _, Nat.zero_le _⟩) (fun H locs hw => ?_)
  refine lv_if_eq (tgt := 16) hx hb dX7_get_4 (by decide) (fun c3 => ?_) (fun c3 => ?_)
  · have hf := (if_pos c3).symm.trans hf
    refine lv_ldc (v := (-2147483648 : Int32)) hx hb S.2.2.2.1 (hts (.constant RX7 137 (-2147483648)) (by decide +kernel)) dX7_get_16 ?_
    obtain ⟨rfl, rfl⟩ := pr2 (Option.some.inj hf)
    exact rt_i S hr hlk hw dX7_get_18
  · have hf := (if_neg c3).symm.trans hf
    refine lv_iload_n hx hb dX7_get_7 rfl (lv_at hl 2 rfl) ?_
    refine lv_iconst (v := (0 : Int32)) hx hb dX7_get_8 (by decide) ?_
    refine lv_iconst (v := (2 : Int32)) hx hb dX7_get_9 (by decide) ?_
    obtain ⟨r4, h5, hf⟩ := bd1_some hf
    refine cl_i (wr := [(q_t, .inr (7, [.ref q_t_boxes, .ref q_t_next, .int t_done, .ref q_t_left, .ref q_t_pairs, .int t_many, .ref q_t_lengths, .ref q_t_riggings, .int t_told, .ref q_t_toldLength, .ref q_t_toldRigging, .ref q_t_toldRoom, .int t_ringN, .ref q_t_ring, .ref q_t_was, .ref q_t_saved, .ref q_t_isThere, .ref q_t_forms, .ref q_t_sizes, .ref q_t_items, .ref q_t_moved, .int t_finding])), (q_t_isThere, .inl (cZ, 4, .inl t_isThere)), (q_t_forms, .inl (cI, 4, .inl t_forms)), (q_t_sizes, .inl (cI, 4, .inl t_sizes)), (q_t_items, .inl (cI, 400, .inl t_items))]) (ws' := [(q_t, .inr (7, [.ref q_t_boxes, .ref q_t_next, .int t_done, .ref q_t_left, .ref q_t_pairs, .int t_many, .ref q_t_lengths, .ref q_t_riggings, .int t_told, .ref q_t_toldLength, .ref q_t_toldRigging, .ref q_t_toldRoom, .int t_ringN, .ref q_t_ring, .ref q_t_was, .ref q_t_saved, .ref q_t_isThere, .ref q_t_forms, .ref q_t_sizes, .ref q_t_items, .ref q_t_moved, .int t_finding])), (q_t_isThere, .inl (cZ, 4, .inl t_isThere)), (q_t_forms, .inl (cI, 4, .inl t_forms)), (q_t_sizes, .inl (cI, 4, .inl t_sizes)), (q_t_items, .inl (cI, 400, .inl t_items))]) hA hw [] [0, 1, 2, 3, 4] [0, 1, 2, 3, 4] rfl rfl rfl (by decide) rfl rfl (va_runS (As := [.int p2, .int (0 : Int32), .int (2 : Int32)]) (rest := []) S (c_X7_in l D cI cZ cJ cO _ N p2 (0 : Int32) (2 : Int32) r4 h5) (va_cwS 3 hts gX7_get_X7_in rfl rfl rfl (by decide +kernel) ⟨Nat.le_of_ble_eq_true rfl, Nat.le_of_ble_eq_true rfl⟩) (pre_S hK hN hw [] rfl rfl) rfl rfl hl.1 rfl (lv_room (Nat.le_of_ble_eq_true rfl)) dX7_get_10 ⟨Nat.zero_le _, Nat.zero_le _⟩) (fun H locs hw => ?_)
    refine lv_if_ne (tgt := 19) hx hb dX7_get_13 (by decide) (fun c6 => ?_) (fun c6 => ?_)
    · have hf := (if_neg c6).symm.trans hf
      refine lv_aload_n hx hb dX7_get_19 rfl (lv_at hl 0 rfl) ?_
      refine lv_iload_n hx hb dX7_get_20 rfl (lv_at hl 1 rfl) ?_
      refine lv_iload_n hx hb dX7_get_21 rfl (lv_at hl 2 rfl) ?_
      refine lv_iload_n hx hb dX7_get_22 rfl (lv_at hl 3 rfl) ?_
      obtain ⟨r7, h8, hf⟩ := bd1_some hf
      refine cl_i (wr := [(q_t_items, .inl (cI, 400, .inl t_items))]) (ws' := [(q_t, .inr (7, [.ref q_t_boxes, .ref q_t_next, .int t_done, .ref q_t_left, .ref q_t_pairs, .int t_many, .ref q_t_lengths, .ref q_t_riggings, .int t_told, .ref q_t_toldLength, .ref q_t_toldRigging, .ref q_t_toldRoom, .int t_ringN, .ref q_t_ring, .ref q_t_was, .ref q_t_saved, .ref q_t_isThere, .ref q_t_forms, .ref q_t_sizes, .ref q_t_items, .ref q_t_moved, .int t_finding])), (q_t_isThere, .inl (cZ, 4, .inl t_isThere)), (q_t_forms, .inl (cI, 4, .inl t_forms)), (q_t_sizes, .inl (cI, 4, .inl t_sizes)), (q_t_items, .inl (cI, 400, .inl t_items))]) hA hw [0, 1, 2, 3] [4] [1, 2, 3, 4, 0] rfl rfl rfl (by decide) rfl rfl (va_runV (As := [.int p1, .int p2, .int p3]) (rest := []) S (c_X7_lacks l D cI cZ cJ cO _ q_t q_t_boxes q_t_next q_t_left q_t_pairs q_t_lengths q_t_riggings q_t_toldLength q_t_toldRigging q_t_toldRoom q_t_ring q_t_was q_t_saved q_t_isThere q_t_forms q_t_sizes q_t_items q_t_moved N p1 p2 p3 t_done t_many t_told t_ringN t_finding t_isThere t_forms t_sizes r7 h8) (cwV 3 hts gX7_get_X7_lacks rfl rfl rfl (by decide +kernel) ⟨Nat.le_of_ble_eq_true rfl, Nat.le_of_ble_eq_true rfl⟩) (pre_V hK hN hw [0, 1, 2, 3] rfl rfl (C := RX7) (T := TX7) (N := 22) (ci := 7) (q0 := 0) rfl rfl) rfl rfl hl.1 rfl (lv_room (Nat.le_of_ble_eq_true rfl)) dX7_get_23 ⟨Nat.zero_le _, Nat.zero_le _⟩) (fun H locs hw => ?_)
      refine lv_istore (lv' := [(4, .int r7), (0, .ref q_t), (1, .int p1), (2, .int p2), (3, .int p3)]) hx hb dX7_get_26 hl (by decide) rfl (fun ls hl => ?_)
      refine lv_iload hx hb dX7_get_28 (lv_at hl 0 rfl) ?_
      refine lv_if_le (tgt := 42) hx hb dX7_get_30 (by decide) (fun c9 => ?_) (fun c9 => ?_)
      · have hf := (if_pos c9).symm.trans hf
        refine lv_aload_n hx hb dX7_get_42 rfl (lv_at hl 1 rfl) ?_
        refine g_get (ci := 7) (C := RX7) (T := TX7) (N := 22) S hinX7 hK hw 0 19 k60 dX7_get_43 rfl rfl (by decide) rfl ?_
        refine lv_bipush (v := (100 : Int32)) hx hb dX7_get_46 (by decide) ?_
        refine lv_iload_n hx hb dX7_get_48 rfl (lv_at hl 2 rfl) ?_
        refine lv_imul hx hb dX7_get_49 ?_
        refine lv_iload_n hx hb dX7_get_50 rfl (lv_at hl 4 rfl) ?_
        refine lv_iadd hx hb dX7_get_51 ?_
        obtain ⟨b10, hf⟩ := ck_some hf
        refine g_iald S hK hw 4 0 b10 dX7_get_52 rfl rfl ?_
        obtain ⟨rfl, rfl⟩ := pr2 (Option.some.inj hf)
        exact rt_i S hr hlk hw dX7_get_53
      · have hf := (if_neg c9).symm.trans hf
        refine lv_aload_n hx hb dX7_get_33 rfl (lv_at hl 1 rfl) ?_
        refine lv_iload hx hb dX7_get_34 (lv_at hl 0 rfl) ?_
        refine g_put (ci := 7) (C := RX7) (T := TX7) (N := 22) (ws' := [(q_t, .inr (7, [.ref q_t_boxes, .ref q_t_next, .int t_done, .ref q_t_left, .ref q_t_pairs, .int t_many, .ref q_t_lengths, .ref q_t_riggings, .int t_told, .ref q_t_toldLength, .ref q_t_toldRigging, .ref q_t_toldRoom, .int t_ringN, .ref q_t_ring, .ref q_t_was, .ref q_t_saved, .ref q_t_isThere, .ref q_t_forms, .ref q_t_sizes, .ref q_t_items, .ref q_t_moved, .int r7])), (q_t_isThere, .inl (cZ, 4, .inl t_isThere)), (q_t_forms, .inl (cI, 4, .inl t_forms)), (q_t_sizes, .inl (cI, 4, .inl t_sizes)), (q_t_items, .inl (cI, 400, .inl t_items))]) S hinX7 tyX7 tyX7_ok nmX7 hK hw 0 21 k123 dX7_get_36 rfl rfl (by decide) rfl rfl rfl (Nat.le_of_ble_eq_true rfl) rfl (fun H locs hw => ?_)
        refine lv_ldc (v := (-2147483648 : Int32)) hx hb S.2.2.2.1 (hts (.constant RX7 137 (-2147483648)) (by decide +kernel)) dX7_get_39 ?_
        obtain ⟨rfl, rfl⟩ := pr2 (Option.some.inj hf)
        exact rt_i S hr hlk hw dX7_get_41
    · have hf := (if_pos c6).symm.trans hf
      refine lv_ldc (v := (-2147483648 : Int32)) hx hb S.2.2.2.1 (hts (.constant RX7 137 (-2147483648)) (by decide +kernel)) dX7_get_16 ?_
      obtain ⟨rfl, rfl⟩ := pr2 (Option.some.inj hf)
      exact rt_i S hr hlk hw dX7_get_18

def L_X7_copy_120 (N : Nat) (x1 : Int32) (x2 : Int32) (x5 : Int32) (w_t_items : (Nat → Int32)) (K : (Nat → Int32) → Option (Int32 × Int32 × (Nat → Int32) × (Nat → Int32))) : Nat → Int32 → (Nat → Int32) → Option (Int32 × Int32 × (Nat → Int32) × (Nat → Int32))
  | 0, _, _ => none
  | n + 1, x6, w_t_moved => (if x5 ≤ x6 then (K w_t_moved) else (ck (inb ((((100 : Int32) * x1) + x2) + x6) 400) (ck (inb x6 100) (L_X7_copy_120 N x1 x2 x5 w_t_items K n (x6 + (1 : Int32)) (upd w_t_moved x6.toNatClampNeg (w_t_items ((((100 : Int32) * x1) + x2) + x6).toNatClampNeg))))))

def L_X7_copy_157 (N : Nat) (x3 : Int32) (x4 : Int32) (x5 : Int32) (w_t_moved : (Nat → Int32)) (K : (Nat → Int32) → Option (Int32 × Int32 × (Nat → Int32) × (Nat → Int32))) : Nat → Int32 → (Nat → Int32) → Option (Int32 × Int32 × (Nat → Int32) × (Nat → Int32))
  | 0, _, _ => none
  | n + 1, x6, w_t_items => (if x5 ≤ x6 then (K w_t_items) else (ck (inb x6 100) (ck (inb ((((100 : Int32) * x3) + x4) + x6) 400) (L_X7_copy_157 N x3 x4 x5 w_t_moved K n (x6 + (1 : Int32)) (upd w_t_items ((((100 : Int32) * x3) + x4) + x6).toNatClampNeg (w_t_moved x6.toNatClampNeg))))))

def f_X7_copy (N : Nat) (p1 : Int32) (p2 : Int32) (p3 : Int32) (p4 : Int32) (p5 : Int32) (t_finding : Int32) (t_isThere : (Nat → Int32)) (t_forms : (Nat → Int32)) (t_sizes : (Nat → Int32)) (t_items : (Nat → Int32)) (t_moved : (Nat → Int32)) : Option (Int32 × Int32 × (Nat → Int32) × (Nat → Int32)) :=
  (bd1 (f_X7_isSheet N p1) (fun r1 => (if r1 = (0 : Int32) then (some ((-2 : Int32), t_finding, t_items, t_moved)) else (bd1 (f_X7_isSheet N p3) (fun r4 => (if r4 = (0 : Int32) then (some ((-2 : Int32), t_finding, t_items, t_moved)) else (ck (inb p1 4) (if (t_isThere p1.toNatClampNeg) = (0 : Int32) then (bd2 (f_X7_meets N (1 : Int32) t_finding) (fun r9 u10 => (some (r9, u10, t_items, t_moved)))) else (ck (inb p3 4) (if (t_isThere p3.toNatClampNeg) = (0 : Int32) then (bd2 (f_X7_meets N (1 : Int32) t_finding) (fun r50 u51 => (some (r50, u51, t_items, t_moved)))) else (ck (inb p1 4) (ck (inb p3 4) (if (t_forms p1.toNatClampNeg) = (t_forms p3.toNatClampNeg) then (if p2 < (0 : Int32) then (bd2 (f_X7_meets N (2 : Int32) t_finding) (fun r18 u19 => (some (r18, u19, t_items, t_moved)))) else (if p4 < (0 : Int32) then (bd2 (f_X7_meets N (2 : Int32) t_finding) (fun r22 u23 => (some (r22, u23, t_items, t_moved)))) else (if p5 < (0 : Int32) then (bd2 (f_X7_meets N (2 : Int32) t_finding) (fun r26 u27 => (some (r26, u27, t_items, t_moved)))) else (ck (inb p1 4) (if (0 : Int32) < (lg_cmp (p2.toInt64 + p5.toInt64) (t_sizes p1.toNatClampNeg).toInt64) then (bd2 (f_X7_meets N (2 : Int32) t_finding) (fun r31 u32 => (some (r31, u32, t_items, t_moved)))) else (ck (inb p3 4) (if (lg_cmp (p4.toInt64 + p5.toInt64) (t_sizes p3.toNatClampNeg).toInt64) ≤ (0 : Int32) then (L_X7_copy_120 N p1 p2 p5 t_items (fun u39 => (L_X7_copy_157 N p3 p4 p5 u39 (fun u43 => (some ((1 : Int32), t_finding, u43, u39))) N (0 : Int32) t_items)) N (0 : Int32) t_moved) else (bd2 (f_X7_meets N (2 : Int32) t_finding) (fun r44 u45 => (some (r44, u45, t_items, t_moved))))))))))) else (bd2 (f_X7_meets N (4 : Int32) t_finding) (fun r47 u48 => (some (r47, u48, t_items, t_moved)))))))))))))))))

set_option maxHeartbeats 4000000 in
set_option maxRecDepth 100000 in
theorem c_X7_copy (l : Launch) (D : va_G) (cI cZ cJ cO : ClassId) (sz : Nat) (q_t q_t_boxes q_t_next q_t_left q_t_pairs q_t_lengths q_t_riggings q_t_toldLength q_t_toldRigging q_t_toldRoom q_t_ring q_t_was q_t_saved q_t_isThere q_t_forms q_t_sizes q_t_items q_t_moved : Nat) (N : Nat) (p1 : Int32) (p2 : Int32) (p3 : Int32) (p4 : Int32) (p5 : Int32) (t_done : Int32) (t_many : Int32) (t_told : Int32) (t_ringN : Int32) (t_finding : Int32) (t_isThere : (Nat → Int32)) (t_forms : (Nat → Int32)) (t_sizes : (Nat → Int32)) (t_items : (Nat → Int32)) (t_moved : (Nat → Int32)) (r : Int32) (o_t_finding : Int32) (o_t_items : (Nat → Int32)) (o_t_moved : (Nat → Int32)) (hf : f_X7_copy N p1 p2 p3 p4 p5 t_finding t_isThere t_forms t_sizes t_items t_moved = some (r, o_t_finding, o_t_items, o_t_moved)) : Met l yX7_copy wsX7_copy ({ frames := 2, cells := 0, slots := 0, locals := 42 }) (PreC D (TY cI cZ cJ cO) [.ref q_t, .int p1, .int p2, .int p3, .int p4, .int p5] [(q_t, .inr (7, [.ref q_t_boxes, .ref q_t_next, .int t_done, .ref q_t_left, .ref q_t_pairs, .int t_many, .ref q_t_lengths, .ref q_t_riggings, .int t_told, .ref q_t_toldLength, .ref q_t_toldRigging, .ref q_t_toldRoom, .int t_ringN, .ref q_t_ring, .ref q_t_was, .ref q_t_saved, .ref q_t_isThere, .ref q_t_forms, .ref q_t_sizes, .ref q_t_items, .ref q_t_moved, .int t_finding])), (q_t_isThere, .inl (cZ, 4, .inl t_isThere)), (q_t_forms, .inl (cI, 4, .inl t_forms)), (q_t_sizes, .inl (cI, 4, .inl t_sizes)), (q_t_items, .inl (cI, 400, .inl t_items)), (q_t_moved, .inl (cI, 100, .inl t_moved))] sz) (QcI D [(q_t, .inr (7, [.ref q_t_boxes, .ref q_t_next, .int t_done, .ref q_t_left, .ref q_t_pairs, .int t_many, .ref q_t_lengths, .ref q_t_riggings, .int t_told, .ref q_t_toldLength, .ref q_t_toldRigging, .ref q_t_toldRoom, .int t_ringN, .ref q_t_ring, .ref q_t_was, .ref q_t_saved, .ref q_t_isThere, .ref q_t_forms, .ref q_t_sizes, .ref q_t_items, .ref q_t_moved, .int o_t_finding])), (q_t_isThere, .inl (cZ, 4, .inl t_isThere)), (q_t_forms, .inl (cI, 4, .inl t_forms)), (q_t_sizes, .inl (cI, 4, .inl t_sizes)), (q_t_items, .inl (cI, 400, .inl o_t_items)), (q_t_moved, .inl (cI, 100, .inl o_t_moved))] (va_A [(q_t, .inr (7, [.ref q_t_boxes, .ref q_t_next, .int t_done, .ref q_t_left, .ref q_t_pairs, .int t_many, .ref q_t_lengths, .ref q_t_riggings, .int t_told, .ref q_t_toldLength, .ref q_t_toldRigging, .ref q_t_toldRoom, .int t_ringN, .ref q_t_ring, .ref q_t_was, .ref q_t_saved, .ref q_t_isThere, .ref q_t_forms, .ref q_t_sizes, .ref q_t_items, .ref q_t_moved, .int t_finding])), (q_t_isThere, .inl (cZ, 4, .inl t_isThere)), (q_t_forms, .inl (cI, 4, .inl t_forms)), (q_t_sizes, .inl (cI, 4, .inl t_sizes)), (q_t_items, .inl (cI, 400, .inl t_items)), (q_t_moved, .inl (cI, 100, .inl t_moved))] sz) r) 0 0 (va_A [(q_t, .inr (7, [.ref q_t_boxes, .ref q_t_next, .int t_done, .ref q_t_left, .ref q_t_pairs, .int t_many, .ref q_t_lengths, .ref q_t_riggings, .int t_told, .ref q_t_toldLength, .ref q_t_toldRigging, .ref q_t_toldRoom, .int t_ringN, .ref q_t_ring, .ref q_t_was, .ref q_t_saved, .ref q_t_isThere, .ref q_t_forms, .ref q_t_sizes, .ref q_t_items, .ref q_t_moved, .int t_finding])), (q_t_isThere, .inl (cZ, 4, .inl t_isThere)), (q_t_forms, .inl (cI, 4, .inl t_forms)), (q_t_sizes, .inl (cI, 4, .inl t_sizes)), (q_t_items, .inl (cI, 400, .inl t_items)), (q_t_moved, .inl (cI, 100, .inl t_moved))] sz) := by
  refine ctr (cc := cX7_copy) (maxL := 7) (ret := (some .int)) (by decide) rfl (Nat.le_of_ble_eq_true rfl) ?_
  intro p e s m below meth c S hr hlk hnm hK hN hsz hA hw ls hl
  generalize va_A [(q_t, .inr (7, [.ref q_t_boxes, .ref q_t_next, .int t_done, .ref q_t_left, .ref q_t_pairs, .int t_many, .ref q_t_lengths, .ref q_t_riggings, .int t_told, .ref q_t_toldLength, .ref q_t_toldRigging, .ref q_t_toldRoom, .int t_ringN, .ref q_t_ring, .ref q_t_was, .ref q_t_saved, .ref q_t_isThere, .ref q_t_forms, .ref q_t_sizes, .ref q_t_items, .ref q_t_moved, .int t_finding])), (q_t_isThere, .inl (cZ, 4, .inl t_isThere)), (q_t_forms, .inl (cI, 4, .inl t_forms)), (q_t_sizes, .inl (cI, 4, .inl t_sizes)), (q_t_items, .inl (cI, 400, .inl t_items)), (q_t_moved, .inl (cI, 100, .inl t_moved))] sz = A at hA hw ⊢
  have S : CallFix p m c cX7_copy 7 s ([.ref q_t, .int p1, .int p2, .int p3, .int p4, .int p5] : List Value).toArray wsX7_copy RX7 := S
  have hx := S.1
  have hb := S.2.1
  have hts := S.2.2.2.2
  have hl : lv_has ls 7 [(0, .ref q_t), (1, .int p1), (2, .int p2), (3, .int p3), (4, .int p4), (5, .int p5)] := hl
  have hinX7 : ∀ w ∈ u_ws RX7 TX7 22, w ∈ wsX7_copy := by decide +kernel
  have k51 : Cond.fieldLink RX7 51 "BallBoxesModel" "isThere" "[Z" ∈ wsX7_copy := by decide +kernel
  have k54 : Cond.fieldLink RX7 54 "BallBoxesModel" "forms" "[I" ∈ wsX7_copy := by decide +kernel
  have k57 : Cond.fieldLink RX7 57 "BallBoxesModel" "sizes" "[I" ∈ wsX7_copy := by decide +kernel
  have k60 : Cond.fieldLink RX7 60 "BallBoxesModel" "items" "[I" ∈ wsX7_copy := by decide +kernel
  have k63 : Cond.fieldLink RX7 63 "BallBoxesModel" "moved" "[I" ∈ wsX7_copy := by decide +kernel
  have Lp120 : ∀ (x1 : Int32) (x2 : Int32) (x3 : Int32) (x4 : Int32) (x5 : Int32) (w_t_finding : Int32) (w_t_items : (Nat → Int32)) (K : (Nat → Int32) → Option (Int32 × Int32 × (Nat → Int32) × (Nat → Int32))), (∀ (z_t_moved : (Nat → Int32)) (H : Heap) (locs : List Loc) (ls : Array Slot), Wd D A s.heap [(q_t, .inr (7, [.ref q_t_boxes, .ref q_t_next, .int t_done, .ref q_t_left, .ref q_t_pairs, .int t_many, .ref q_t_lengths, .ref q_t_riggings, .int t_told, .ref q_t_toldLength, .ref q_t_toldRigging, .ref q_t_toldRoom, .int t_ringN, .ref q_t_ring, .ref q_t_was, .ref q_t_saved, .ref q_t_isThere, .ref q_t_forms, .ref q_t_sizes, .ref q_t_items, .ref q_t_moved, .int w_t_finding])), (q_t_isThere, .inl (cZ, 4, .inl t_isThere)), (q_t_forms, .inl (cI, 4, .inl t_forms)), (q_t_sizes, .inl (cI, 4, .inl t_sizes)), (q_t_items, .inl (cI, 400, .inl w_t_items)), (q_t_moved, .inl (cI, 100, .inl z_t_moved))] H locs → lv_has ls 7 [(0, .ref q_t), (3, .int x3), (4, .int x4), (5, .int x5)] → K z_t_moved = some (r, o_t_finding, o_t_items, o_t_moved) → W p l e ({ frames := 2, cells := 0, slots := 0, locals := 42 } : Room) s m ([.ref q_t, .int p1, .int p2, .int p3, .int p4, .int p5] : List Value).toArray below meth c H locs 0 0 (MQ below (QcI D [(q_t, .inr (7, [.ref q_t_boxes, .ref q_t_next, .int t_done, .ref q_t_left, .ref q_t_pairs, .int t_many, .ref q_t_lengths, .ref q_t_riggings, .int t_told, .ref q_t_toldLength, .ref q_t_toldRigging, .ref q_t_toldRoom, .int t_ringN, .ref q_t_ring, .ref q_t_was, .ref q_t_saved, .ref q_t_isThere, .ref q_t_forms, .ref q_t_sizes, .ref q_t_items, .ref q_t_moved, .int o_t_finding])), (q_t_isThere, .inl (cZ, 4, .inl t_isThere)), (q_t_forms, .inl (cI, 4, .inl t_forms)), (q_t_sizes, .inl (cI, 4, .inl t_sizes)), (q_t_items, .inl (cI, 400, .inl o_t_items)), (q_t_moved, .inl (cI, 100, .inl o_t_moved))] A r) ([.ref q_t, .int p1, .int p2, .int p3, .int p4, .int p5] : List Value).toArray s 0 0 A) (F0 m 154 ls [])) → ∀ (n : Nat) (x6 : Int32) (w_t_moved : (Nat → Int32)) (H : Heap) (locs : List Loc) (ls : Array Slot), Wd D A s.heap [(q_t, .inr (7, [.ref q_t_boxes, .ref q_t_next, .int t_done, .ref q_t_left, .ref q_t_pairs, .int t_many, .ref q_t_lengths, .ref q_t_riggings, .int t_told, .ref q_t_toldLength, .ref q_t_toldRigging, .ref q_t_toldRoom, .int t_ringN, .ref q_t_ring, .ref q_t_was, .ref q_t_saved, .ref q_t_isThere, .ref q_t_forms, .ref q_t_sizes, .ref q_t_items, .ref q_t_moved, .int w_t_finding])), (q_t_isThere, .inl (cZ, 4, .inl t_isThere)), (q_t_forms, .inl (cI, 4, .inl t_forms)), (q_t_sizes, .inl (cI, 4, .inl t_sizes)), (q_t_items, .inl (cI, 400, .inl w_t_items)), (q_t_moved, .inl (cI, 100, .inl w_t_moved))] H locs → lv_has ls 7 [(0, .ref q_t), (1, .int x1), (2, .int x2), (3, .int x3), (4, .int x4), (5, .int x5), (6, .int x6)] → L_X7_copy_120 N x1 x2 x5 w_t_items K n x6 w_t_moved = some (r, o_t_finding, o_t_items, o_t_moved) → W p l e ({ frames := 2, cells := 0, slots := 0, locals := 42 } : Room) s m ([.ref q_t, .int p1, .int p2, .int p3, .int p4, .int p5] : List Value).toArray below meth c H locs 0 0 (MQ below (QcI D [(q_t, .inr (7, [.ref q_t_boxes, .ref q_t_next, .int t_done, .ref q_t_left, .ref q_t_pairs, .int t_many, .ref q_t_lengths, .ref q_t_riggings, .int t_told, .ref q_t_toldLength, .ref q_t_toldRigging, .ref q_t_toldRoom, .int t_ringN, .ref q_t_ring, .ref q_t_was, .ref q_t_saved, .ref q_t_isThere, .ref q_t_forms, .ref q_t_sizes, .ref q_t_items, .ref q_t_moved, .int o_t_finding])), (q_t_isThere, .inl (cZ, 4, .inl t_isThere)), (q_t_forms, .inl (cI, 4, .inl t_forms)), (q_t_sizes, .inl (cI, 4, .inl t_sizes)), (q_t_items, .inl (cI, 400, .inl o_t_items)), (q_t_moved, .inl (cI, 100, .inl o_t_moved))] A r) ([.ref q_t, .int p1, .int p2, .int p3, .int p4, .int p5] : List Value).toArray s 0 0 A) (F0 m 120 ls []) := by
    intro x1 x2 x3 x4 x5 w_t_finding w_t_items K hKx n
    induction n with
    | zero =>
      intro x6 w_t_moved H locs ls hw hl hf
      rw [L_X7_copy_120] at hf
      cases hf
    | succ n ih =>
      intro x6 w_t_moved H locs ls hw hl hf
      rw [L_X7_copy_120] at hf
      refine lv_iload hx hb dX7_copy_120 (lv_at hl 6 rfl) ?_
      refine lv_iload hx hb dX7_copy_122 (lv_at hl 5 rfl) ?_
      refine lv_icmp_ge (tgt := 154) hx hb dX7_copy_124 (by decide) (fun c36 => ?_) (fun c36 => ?_)
      · have hf := (if_pos c36).symm.trans hf
        exact hKx w_t_moved _ _ _ hw (lv_sub hl [0, 3, 4, 5] rfl) hf
      · have hf := (if_neg c36).symm.trans hf
        refine lv_aload_n hx hb dX7_copy_127 rfl (lv_at hl 0 rfl) ?_
        refine g_get (ci := 7) (C := RX7) (T := TX7) (N := 22) S hinX7 hK hw 0 20 k63 dX7_copy_128 rfl rfl (by decide) rfl ?_
        refine lv_iload hx hb dX7_copy_131 (lv_at hl 6 rfl) ?_
        refine lv_aload_n hx hb dX7_copy_133 rfl (lv_at hl 0 rfl) ?_
        refine g_get (ci := 7) (C := RX7) (T := TX7) (N := 22) S hinX7 hK hw 0 19 k60 dX7_copy_134 rfl rfl (by decide) rfl ?_
        refine lv_bipush (v := (100 : Int32)) hx hb dX7_copy_137 (by decide) ?_
        refine lv_iload_n hx hb dX7_copy_139 rfl (lv_at hl 1 rfl) ?_
        refine lv_imul hx hb dX7_copy_140 ?_
        refine lv_iload_n hx hb dX7_copy_141 rfl (lv_at hl 2 rfl) ?_
        refine lv_iadd hx hb dX7_copy_142 ?_
        refine lv_iload hx hb dX7_copy_143 (lv_at hl 6 rfl) ?_
        refine lv_iadd hx hb dX7_copy_145 ?_
        obtain ⟨b37, hf⟩ := ck_some hf
        refine g_iald S hK hw 4 0 b37 dX7_copy_146 rfl rfl ?_
        obtain ⟨b38, hf⟩ := ck_some hf
        refine g_iast (ws' := [(q_t, .inr (7, [.ref q_t_boxes, .ref q_t_next, .int t_done, .ref q_t_left, .ref q_t_pairs, .int t_many, .ref q_t_lengths, .ref q_t_riggings, .int t_told, .ref q_t_toldLength, .ref q_t_toldRigging, .ref q_t_toldRoom, .int t_ringN, .ref q_t_ring, .ref q_t_was, .ref q_t_saved, .ref q_t_isThere, .ref q_t_forms, .ref q_t_sizes, .ref q_t_items, .ref q_t_moved, .int w_t_finding])), (q_t_isThere, .inl (cZ, 4, .inl t_isThere)), (q_t_forms, .inl (cI, 4, .inl t_forms)), (q_t_sizes, .inl (cI, 4, .inl t_sizes)), (q_t_items, .inl (cI, 400, .inl w_t_items)), (q_t_moved, .inl (cI, 100, .inl (upd w_t_moved x6.toNatClampNeg (w_t_items ((((100 : Int32) * x1) + x2) + x6).toNatClampNeg))))]) S hK hw 5 0 b38 dX7_copy_147 rfl rfl rfl (fun H locs hw => ?_)
        refine lv_iinc (v := (x6 + (1 : Int32))) (lv' := [(6, .int (x6 + (1 : Int32))), (0, .ref q_t), (1, .int x1), (2, .int x2), (3, .int x3), (4, .int x4), (5, .int x5)]) hx hb dX7_copy_148 hl (k := 6) rfl rfl (by decide) rfl (fun ls hl => ?_)
        refine lv_goto (tgt := 120) hx hb dX7_copy_151 (by decide) ?_
        exact ih (x6 + (1 : Int32)) (upd w_t_moved x6.toNatClampNeg (w_t_items ((((100 : Int32) * x1) + x2) + x6).toNatClampNeg)) _ _ _ hw (lv_sub hl [1, 2, 3, 4, 5, 6, 0] rfl) hf
  have Lp157 : ∀ (x3 : Int32) (x4 : Int32) (x5 : Int32) (w_t_finding : Int32) (w_t_moved : (Nat → Int32)) (K : (Nat → Int32) → Option (Int32 × Int32 × (Nat → Int32) × (Nat → Int32))), (∀ (z_t_items : (Nat → Int32)) (H : Heap) (locs : List Loc) (ls : Array Slot), Wd D A s.heap [(q_t, .inr (7, [.ref q_t_boxes, .ref q_t_next, .int t_done, .ref q_t_left, .ref q_t_pairs, .int t_many, .ref q_t_lengths, .ref q_t_riggings, .int t_told, .ref q_t_toldLength, .ref q_t_toldRigging, .ref q_t_toldRoom, .int t_ringN, .ref q_t_ring, .ref q_t_was, .ref q_t_saved, .ref q_t_isThere, .ref q_t_forms, .ref q_t_sizes, .ref q_t_items, .ref q_t_moved, .int w_t_finding])), (q_t_isThere, .inl (cZ, 4, .inl t_isThere)), (q_t_forms, .inl (cI, 4, .inl t_forms)), (q_t_sizes, .inl (cI, 4, .inl t_sizes)), (q_t_items, .inl (cI, 400, .inl z_t_items)), (q_t_moved, .inl (cI, 100, .inl w_t_moved))] H locs → lv_has ls 7 [] → K z_t_items = some (r, o_t_finding, o_t_items, o_t_moved) → W p l e ({ frames := 2, cells := 0, slots := 0, locals := 42 } : Room) s m ([.ref q_t, .int p1, .int p2, .int p3, .int p4, .int p5] : List Value).toArray below meth c H locs 0 0 (MQ below (QcI D [(q_t, .inr (7, [.ref q_t_boxes, .ref q_t_next, .int t_done, .ref q_t_left, .ref q_t_pairs, .int t_many, .ref q_t_lengths, .ref q_t_riggings, .int t_told, .ref q_t_toldLength, .ref q_t_toldRigging, .ref q_t_toldRoom, .int t_ringN, .ref q_t_ring, .ref q_t_was, .ref q_t_saved, .ref q_t_isThere, .ref q_t_forms, .ref q_t_sizes, .ref q_t_items, .ref q_t_moved, .int o_t_finding])), (q_t_isThere, .inl (cZ, 4, .inl t_isThere)), (q_t_forms, .inl (cI, 4, .inl t_forms)), (q_t_sizes, .inl (cI, 4, .inl t_sizes)), (q_t_items, .inl (cI, 400, .inl o_t_items)), (q_t_moved, .inl (cI, 100, .inl o_t_moved))] A r) ([.ref q_t, .int p1, .int p2, .int p3, .int p4, .int p5] : List Value).toArray s 0 0 A) (F0 m 192 ls [])) → ∀ (n : Nat) (x6 : Int32) (w_t_items : (Nat → Int32)) (H : Heap) (locs : List Loc) (ls : Array Slot), Wd D A s.heap [(q_t, .inr (7, [.ref q_t_boxes, .ref q_t_next, .int t_done, .ref q_t_left, .ref q_t_pairs, .int t_many, .ref q_t_lengths, .ref q_t_riggings, .int t_told, .ref q_t_toldLength, .ref q_t_toldRigging, .ref q_t_toldRoom, .int t_ringN, .ref q_t_ring, .ref q_t_was, .ref q_t_saved, .ref q_t_isThere, .ref q_t_forms, .ref q_t_sizes, .ref q_t_items, .ref q_t_moved, .int w_t_finding])), (q_t_isThere, .inl (cZ, 4, .inl t_isThere)), (q_t_forms, .inl (cI, 4, .inl t_forms)), (q_t_sizes, .inl (cI, 4, .inl t_sizes)), (q_t_items, .inl (cI, 400, .inl w_t_items)), (q_t_moved, .inl (cI, 100, .inl w_t_moved))] H locs → lv_has ls 7 [(0, .ref q_t), (3, .int x3), (4, .int x4), (5, .int x5), (6, .int x6)] → L_X7_copy_157 N x3 x4 x5 w_t_moved K n x6 w_t_items = some (r, o_t_finding, o_t_items, o_t_moved) → W p l e ({ frames := 2, cells := 0, slots := 0, locals := 42 } : Room) s m ([.ref q_t, .int p1, .int p2, .int p3, .int p4, .int p5] : List Value).toArray below meth c H locs 0 0 (MQ below (QcI D [(q_t, .inr (7, [.ref q_t_boxes, .ref q_t_next, .int t_done, .ref q_t_left, .ref q_t_pairs, .int t_many, .ref q_t_lengths, .ref q_t_riggings, .int t_told, .ref q_t_toldLength, .ref q_t_toldRigging, .ref q_t_toldRoom, .int t_ringN, .ref q_t_ring, .ref q_t_was, .ref q_t_saved, .ref q_t_isThere, .ref q_t_forms, .ref q_t_sizes, .ref q_t_items, .ref q_t_moved, .int o_t_finding])), (q_t_isThere, .inl (cZ, 4, .inl t_isThere)), (q_t_forms, .inl (cI, 4, .inl t_forms)), (q_t_sizes, .inl (cI, 4, .inl t_sizes)), (q_t_items, .inl (cI, 400, .inl o_t_items)), (q_t_moved, .inl (cI, 100, .inl o_t_moved))] A r) ([.ref q_t, .int p1, .int p2, .int p3, .int p4, .int p5] : List Value).toArray s 0 0 A) (F0 m 157 ls []) := by
    intro x3 x4 x5 w_t_finding w_t_moved K hKx n
    induction n with
    | zero =>
      intro x6 w_t_items H locs ls hw hl hf
      rw [L_X7_copy_157] at hf
      cases hf
    | succ n ih =>
      intro x6 w_t_items H locs ls hw hl hf
      rw [L_X7_copy_157] at hf
      refine lv_iload hx hb dX7_copy_157 (lv_at hl 4 rfl) ?_
      refine lv_iload hx hb dX7_copy_159 (lv_at hl 3 rfl) ?_
      refine lv_icmp_ge (tgt := 192) hx hb dX7_copy_161 (by decide) (fun c40 => ?_) (fun c40 => ?_)
      · have hf := (if_pos c40).symm.trans hf
        exact hKx w_t_items _ _ _ hw (lv_sub hl [] rfl) hf
      · have hf := (if_neg c40).symm.trans hf
        refine lv_aload_n hx hb dX7_copy_164 rfl (lv_at hl 0 rfl) ?_
        refine g_get (ci := 7) (C := RX7) (T := TX7) (N := 22) S hinX7 hK hw 0 19 k60 dX7_copy_165 rfl rfl (by decide) rfl ?_
        refine lv_bipush (v := (100 : Int32)) hx hb dX7_copy_168 (by decide) ?_
        refine lv_iload_n hx hb dX7_copy_170 rfl (lv_at hl 1 rfl) ?_
        refine lv_imul hx hb dX7_copy_171 ?_
        refine lv_iload hx hb dX7_copy_172 (lv_at hl 2 rfl) ?_
        refine lv_iadd hx hb dX7_copy_174 ?_
        refine lv_iload hx hb dX7_copy_175 (lv_at hl 4 rfl) ?_
        refine lv_iadd hx hb dX7_copy_177 ?_
        refine lv_aload_n hx hb dX7_copy_178 rfl (lv_at hl 0 rfl) ?_
        refine g_get (ci := 7) (C := RX7) (T := TX7) (N := 22) S hinX7 hK hw 0 20 k63 dX7_copy_179 rfl rfl (by decide) rfl ?_
        refine lv_iload hx hb dX7_copy_182 (lv_at hl 4 rfl) ?_
        obtain ⟨b41, hf⟩ := ck_some hf
        refine g_iald S hK hw 5 0 b41 dX7_copy_184 rfl rfl ?_
        obtain ⟨b42, hf⟩ := ck_some hf
        refine g_iast (ws' := [(q_t, .inr (7, [.ref q_t_boxes, .ref q_t_next, .int t_done, .ref q_t_left, .ref q_t_pairs, .int t_many, .ref q_t_lengths, .ref q_t_riggings, .int t_told, .ref q_t_toldLength, .ref q_t_toldRigging, .ref q_t_toldRoom, .int t_ringN, .ref q_t_ring, .ref q_t_was, .ref q_t_saved, .ref q_t_isThere, .ref q_t_forms, .ref q_t_sizes, .ref q_t_items, .ref q_t_moved, .int w_t_finding])), (q_t_isThere, .inl (cZ, 4, .inl t_isThere)), (q_t_forms, .inl (cI, 4, .inl t_forms)), (q_t_sizes, .inl (cI, 4, .inl t_sizes)), (q_t_items, .inl (cI, 400, .inl (upd w_t_items ((((100 : Int32) * x3) + x4) + x6).toNatClampNeg (w_t_moved x6.toNatClampNeg)))), (q_t_moved, .inl (cI, 100, .inl w_t_moved))]) S hK hw 4 0 b42 dX7_copy_185 rfl rfl rfl (fun H locs hw => ?_)
        refine lv_iinc (v := (x6 + (1 : Int32))) (lv' := [(6, .int (x6 + (1 : Int32))), (0, .ref q_t), (3, .int x3), (4, .int x4), (5, .int x5)]) hx hb dX7_copy_186 hl (k := 4) rfl rfl (by decide) rfl (fun ls hl => ?_)
        refine lv_goto (tgt := 157) hx hb dX7_copy_189 (by decide) ?_
        exact ih (x6 + (1 : Int32)) (upd w_t_items ((((100 : Int32) * x3) + x4) + x6).toNatClampNeg (w_t_moved x6.toNatClampNeg)) _ _ _ hw (lv_sub hl [1, 2, 3, 4, 0] rfl) hf
  unfold f_X7_copy at hf
  refine lv_iload_n hx hb dX7_copy_0 rfl (lv_at hl 1 rfl) ?_
  obtain ⟨r1, h2, hf⟩ := bd1_some hf
  refine cl_i (wr := [(q_t, .inr (7, [.ref q_t_boxes, .ref q_t_next, .int t_done, .ref q_t_left, .ref q_t_pairs, .int t_many, .ref q_t_lengths, .ref q_t_riggings, .int t_told, .ref q_t_toldLength, .ref q_t_toldRigging, .ref q_t_toldRoom, .int t_ringN, .ref q_t_ring, .ref q_t_was, .ref q_t_saved, .ref q_t_isThere, .ref q_t_forms, .ref q_t_sizes, .ref q_t_items, .ref q_t_moved, .int t_finding])), (q_t_isThere, .inl (cZ, 4, .inl t_isThere)), (q_t_forms, .inl (cI, 4, .inl t_forms)), (q_t_sizes, .inl (cI, 4, .inl t_sizes)), (q_t_items, .inl (cI, 400, .inl t_items)), (q_t_moved, .inl (cI, 100, .inl t_moved))]) (ws' := [(q_t, .inr (7, [.ref q_t_boxes, .ref q_t_next, .int t_done, .ref q_t_left, .ref q_t_pairs, .int t_many, .ref q_t_lengths, .ref q_t_riggings, .int t_told, .ref q_t_toldLength, .ref q_t_toldRigging, .ref q_t_toldRoom, .int t_ringN, .ref q_t_ring, .ref q_t_was, .ref q_t_saved, .ref q_t_isThere, .ref q_t_forms, .ref q_t_sizes, .ref q_t_items, .ref q_t_moved, .int t_finding])), (q_t_isThere, .inl (cZ, 4, .inl t_isThere)), (q_t_forms, .inl (cI, 4, .inl t_forms)), (q_t_sizes, .inl (cI, 4, .inl t_sizes)), (q_t_items, .inl (cI, 400, .inl t_items)), (q_t_moved, .inl (cI, 100, .inl t_moved))]) hA hw [] [0, 1, 2, 3, 4, 5] [0, 1, 2, 3, 4, 5] rfl rfl rfl (by decide) rfl rfl (va_runS (As := [.int p1]) (rest := []) S (c_X7_isSheet l D cI cZ cJ cO _ N p1 r1 h2) (va_cwS 1 hts gX7_copy_X7_isSheet rfl rfl rfl (by decide +kernel) ⟨Nat.le_of_ble_eq_true rfl, Nat.le_of_ble_eq_true rfl⟩) (pre_S hK hN hw [] rfl rfl) rfl rfl hl.1 rfl (lv_room (Nat.le_of_ble_eq_true rfl)) dX7_copy_1 ⟨Nat.zero_le _, Nat.zero_le _⟩) (fun H locs hw => ?_)
  refine lv_if_eq (tgt := 14) hx hb dX7_copy_4 (by decide) (fun c3 => ?_) (fun c3 => ?_)
  · have hf := (if_pos c3).symm.trans hf
    refine lv_bipush (v := (-2 : Int32)) hx hb dX7_copy_14 (by decide) ?_
    obtain ⟨rfl, rfl, rfl, rfl⟩ := pr4 (Option.some.inj hf)
    exact rt_i S hr hlk hw dX7_copy_16
  · have hf := (if_neg c3).symm.trans hf
    refine lv_iload_n hx hb dX7_copy_7 rfl (lv_at hl 3 rfl) ?_
    obtain ⟨r4, h5, hf⟩ := bd1_some hf
    refine cl_i (wr := [(q_t, .inr (7, [.ref q_t_boxes, .ref q_t_next, .int t_done, .ref q_t_left, .ref q_t_pairs, .int t_many, .ref q_t_lengths, .ref q_t_riggings, .int t_told, .ref q_t_toldLength, .ref q_t_toldRigging, .ref q_t_toldRoom, .int t_ringN, .ref q_t_ring, .ref q_t_was, .ref q_t_saved, .ref q_t_isThere, .ref q_t_forms, .ref q_t_sizes, .ref q_t_items, .ref q_t_moved, .int t_finding])), (q_t_isThere, .inl (cZ, 4, .inl t_isThere)), (q_t_forms, .inl (cI, 4, .inl t_forms)), (q_t_sizes, .inl (cI, 4, .inl t_sizes)), (q_t_items, .inl (cI, 400, .inl t_items)), (q_t_moved, .inl (cI, 100, .inl t_moved))]) (ws' := [(q_t, .inr (7, [.ref q_t_boxes, .ref q_t_next, .int t_done, .ref q_t_left, .ref q_t_pairs, .int t_many, .ref q_t_lengths, .ref q_t_riggings, .int t_told, .ref q_t_toldLength, .ref q_t_toldRigging, .ref q_t_toldRoom, .int t_ringN, .ref q_t_ring, .ref q_t_was, .ref q_t_saved, .ref q_t_isThere, .ref q_t_forms, .ref q_t_sizes, .ref q_t_items, .ref q_t_moved, .int t_finding])), (q_t_isThere, .inl (cZ, 4, .inl t_isThere)), (q_t_forms, .inl (cI, 4, .inl t_forms)), (q_t_sizes, .inl (cI, 4, .inl t_sizes)), (q_t_items, .inl (cI, 400, .inl t_items)), (q_t_moved, .inl (cI, 100, .inl t_moved))]) hA hw [] [0, 1, 2, 3, 4, 5] [0, 1, 2, 3, 4, 5] rfl rfl rfl (by decide) rfl rfl (va_runS (As := [.int p3]) (rest := []) S (c_X7_isSheet l D cI cZ cJ cO _ N p3 r4 h5) (va_cwS 1 hts gX7_copy_X7_isSheet rfl rfl rfl (by decide +kernel) ⟨Nat.le_of_ble_eq_true rfl, Nat.le_of_ble_eq_true rfl⟩) (pre_S hK hN hw [] rfl rfl) rfl rfl hl.1 rfl (lv_room (Nat.le_of_ble_eq_true rfl)) dX7_copy_8 ⟨Nat.zero_le _, Nat.zero_le _⟩) (fun H locs hw => ?_)
    refine lv_if_ne (tgt := 17) hx hb dX7_copy_11 (by decide) (fun c6 => ?_) (fun c6 => ?_)
    · have hf := (if_neg c6).symm.trans hf
      refine lv_aload_n hx hb dX7_copy_17 rfl (lv_at hl 0 rfl) ?_
      refine g_get (ci := 7) (C := RX7) (T := TX7) (N := 22) S hinX7 hK hw 0 16 k51 dX7_copy_18 rfl rfl (by decide) rfl ?_
      refine lv_iload_n hx hb dX7_copy_21 rfl (lv_at hl 1 rfl) ?_
      obtain ⟨b7, hf⟩ := ck_some hf
      refine g_zald S hK hw 1 1 b7 dX7_copy_22 rfl rfl ?_
      refine lv_if_eq (tgt := 35) hx hb dX7_copy_23 (by decide) (fun c8 => ?_) (fun c8 => ?_)
      · have hf := (if_pos c8).symm.trans hf
        refine lv_aload_n hx hb dX7_copy_35 rfl (lv_at hl 0 rfl) ?_
        refine lv_iconst (v := (1 : Int32)) hx hb dX7_copy_36 (by decide) ?_
        obtain ⟨r9, u10, h11, hf⟩ := bd2_some hf
        refine cl_i (wr := [(q_t_isThere, .inl (cZ, 4, .inl t_isThere)), (q_t_forms, .inl (cI, 4, .inl t_forms)), (q_t_sizes, .inl (cI, 4, .inl t_sizes)), (q_t_items, .inl (cI, 400, .inl t_items)), (q_t_moved, .inl (cI, 100, .inl t_moved))]) (ws' := [(q_t, .inr (7, [.ref q_t_boxes, .ref q_t_next, .int t_done, .ref q_t_left, .ref q_t_pairs, .int t_many, .ref q_t_lengths, .ref q_t_riggings, .int t_told, .ref q_t_toldLength, .ref q_t_toldRigging, .ref q_t_toldRoom, .int t_ringN, .ref q_t_ring, .ref q_t_was, .ref q_t_saved, .ref q_t_isThere, .ref q_t_forms, .ref q_t_sizes, .ref q_t_items, .ref q_t_moved, .int u10])), (q_t_isThere, .inl (cZ, 4, .inl t_isThere)), (q_t_forms, .inl (cI, 4, .inl t_forms)), (q_t_sizes, .inl (cI, 4, .inl t_sizes)), (q_t_items, .inl (cI, 400, .inl t_items)), (q_t_moved, .inl (cI, 100, .inl t_moved))]) hA hw [0] [1, 2, 3, 4, 5] [5, 0, 1, 2, 3, 4] rfl rfl rfl (by decide) rfl rfl (va_runV (As := [.int (1 : Int32)]) (rest := []) S (c_X7_meets l D cI cZ cJ cO _ q_t q_t_boxes q_t_next q_t_left q_t_pairs q_t_lengths q_t_riggings q_t_toldLength q_t_toldRigging q_t_toldRoom q_t_ring q_t_was q_t_saved q_t_isThere q_t_forms q_t_sizes q_t_items q_t_moved N (1 : Int32) t_done t_many t_told t_ringN t_finding r9 u10 h11) (cwV 1 hts gX7_copy_X7_meets rfl rfl rfl (by decide +kernel) ⟨Nat.le_of_ble_eq_true rfl, Nat.le_of_ble_eq_true rfl⟩) (pre_V hK hN hw [0] rfl rfl (C := RX7) (T := TX7) (N := 22) (ci := 7) (q0 := 0) rfl rfl) rfl rfl hl.1 rfl (lv_room (Nat.le_of_ble_eq_true rfl)) dX7_copy_37 ⟨Nat.zero_le _, Nat.zero_le _⟩) (fun H locs hw => ?_)
        obtain ⟨rfl, rfl, rfl, rfl⟩ := pr4 (Option.some.inj hf)
        exact rt_i S hr hlk hw dX7_copy_40
      · have hf := (if_neg c8).symm.trans hf
        refine lv_aload_n hx hb dX7_copy_26 rfl (lv_at hl 0 rfl) ?_
        refine g_get (ci := 7) (C := RX7) (T := TX7) (N := 22) S hinX7 hK hw 0 16 k51 dX7_copy_27 rfl rfl (by decide) rfl ?_
        refine lv_iload_n hx hb dX7_copy_30 rfl (lv_at hl 3 rfl) ?_
        obtain ⟨b12, hf⟩ := ck_some hf
        refine g_zald S hK hw 1 1 b12 dX7_copy_31 rfl rfl ?_
        refine lv_if_ne (tgt := 41) hx hb dX7_copy_32 (by decide) (fun c13 => ?_) (fun c13 => ?_)
        · have hf := (if_neg c13).symm.trans hf
          refine lv_aload_n hx hb dX7_copy_41 rfl (lv_at hl 0 rfl) ?_
          refine g_get (ci := 7) (C := RX7) (T := TX7) (N := 22) S hinX7 hK hw 0 17 k54 dX7_copy_42 rfl rfl (by decide) rfl ?_
          refine lv_iload_n hx hb dX7_copy_45 rfl (lv_at hl 1 rfl) ?_
          obtain ⟨b14, hf⟩ := ck_some hf
          refine g_iald S hK hw 2 0 b14 dX7_copy_46 rfl rfl ?_
          refine lv_aload_n hx hb dX7_copy_47 rfl (lv_at hl 0 rfl) ?_
          refine g_get (ci := 7) (C := RX7) (T := TX7) (N := 22) S hinX7 hK hw 0 17 k54 dX7_copy_48 rfl rfl (by decide) rfl ?_
          refine lv_iload_n hx hb dX7_copy_51 rfl (lv_at hl 3 rfl) ?_
          obtain ⟨b15, hf⟩ := ck_some hf
          refine g_iald S hK hw 2 0 b15 dX7_copy_52 rfl rfl ?_
          refine lv_icmp_eq (tgt := 62) hx hb dX7_copy_53 (by decide) (fun c16 => ?_) (fun c16 => ?_)
          · have hf := (if_pos c16).symm.trans hf
            refine lv_iload_n hx hb dX7_copy_62 rfl (lv_at hl 2 rfl) ?_
            refine lv_if_lt (tgt := 111) hx hb dX7_copy_63 (by decide) (fun c17 => ?_) (fun c17 => ?_)
            · have hf := (if_pos c17).symm.trans hf
              refine lv_aload_n hx hb dX7_copy_111 rfl (lv_at hl 0 rfl) ?_
              refine lv_iconst (v := (2 : Int32)) hx hb dX7_copy_112 (by decide) ?_
              obtain ⟨r18, u19, h20, hf⟩ := bd2_some hf
              refine cl_i (wr := [(q_t_isThere, .inl (cZ, 4, .inl t_isThere)), (q_t_forms, .inl (cI, 4, .inl t_forms)), (q_t_sizes, .inl (cI, 4, .inl t_sizes)), (q_t_items, .inl (cI, 400, .inl t_items)), (q_t_moved, .inl (cI, 100, .inl t_moved))]) (ws' := [(q_t, .inr (7, [.ref q_t_boxes, .ref q_t_next, .int t_done, .ref q_t_left, .ref q_t_pairs, .int t_many, .ref q_t_lengths, .ref q_t_riggings, .int t_told, .ref q_t_toldLength, .ref q_t_toldRigging, .ref q_t_toldRoom, .int t_ringN, .ref q_t_ring, .ref q_t_was, .ref q_t_saved, .ref q_t_isThere, .ref q_t_forms, .ref q_t_sizes, .ref q_t_items, .ref q_t_moved, .int u19])), (q_t_isThere, .inl (cZ, 4, .inl t_isThere)), (q_t_forms, .inl (cI, 4, .inl t_forms)), (q_t_sizes, .inl (cI, 4, .inl t_sizes)), (q_t_items, .inl (cI, 400, .inl t_items)), (q_t_moved, .inl (cI, 100, .inl t_moved))]) hA hw [0] [1, 2, 3, 4, 5] [5, 0, 1, 2, 3, 4] rfl rfl rfl (by decide) rfl rfl (va_runV (As := [.int (2 : Int32)]) (rest := []) S (c_X7_meets l D cI cZ cJ cO _ q_t q_t_boxes q_t_next q_t_left q_t_pairs q_t_lengths q_t_riggings q_t_toldLength q_t_toldRigging q_t_toldRoom q_t_ring q_t_was q_t_saved q_t_isThere q_t_forms q_t_sizes q_t_items q_t_moved N (2 : Int32) t_done t_many t_told t_ringN t_finding r18 u19 h20) (cwV 1 hts gX7_copy_X7_meets rfl rfl rfl (by decide +kernel) ⟨Nat.le_of_ble_eq_true rfl, Nat.le_of_ble_eq_true rfl⟩) (pre_V hK hN hw [0] rfl rfl (C := RX7) (T := TX7) (N := 22) (ci := 7) (q0 := 0) rfl rfl) rfl rfl hl.1 rfl (lv_room (Nat.le_of_ble_eq_true rfl)) dX7_copy_113 ⟨Nat.zero_le _, Nat.zero_le _⟩) (fun H locs hw => ?_)
              obtain ⟨rfl, rfl, rfl, rfl⟩ := pr4 (Option.some.inj hf)
              exact rt_i S hr hlk hw dX7_copy_116
            · have hf := (if_neg c17).symm.trans hf
              refine lv_iload hx hb dX7_copy_66 (lv_at hl 4 rfl) ?_
              refine lv_if_lt (tgt := 111) hx hb dX7_copy_68 (by decide) (fun c21 => ?_) (fun c21 => ?_)
              · have hf := (if_pos c21).symm.trans hf
                refine lv_aload_n hx hb dX7_copy_111 rfl (lv_at hl 0 rfl) ?_
                refine lv_iconst (v := (2 : Int32)) hx hb dX7_copy_112 (by decide) ?_
                obtain ⟨r22, u23, h24, hf⟩ := bd2_some hf
                refine cl_i (wr := [(q_t_isThere, .inl (cZ, 4, .inl t_isThere)), (q_t_forms, .inl (cI, 4, .inl t_forms)), (q_t_sizes, .inl (cI, 4, .inl t_sizes)), (q_t_items, .inl (cI, 400, .inl t_items)), (q_t_moved, .inl (cI, 100, .inl t_moved))]) (ws' := [(q_t, .inr (7, [.ref q_t_boxes, .ref q_t_next, .int t_done, .ref q_t_left, .ref q_t_pairs, .int t_many, .ref q_t_lengths, .ref q_t_riggings, .int t_told, .ref q_t_toldLength, .ref q_t_toldRigging, .ref q_t_toldRoom, .int t_ringN, .ref q_t_ring, .ref q_t_was, .ref q_t_saved, .ref q_t_isThere, .ref q_t_forms, .ref q_t_sizes, .ref q_t_items, .ref q_t_moved, .int u23])), (q_t_isThere, .inl (cZ, 4, .inl t_isThere)), (q_t_forms, .inl (cI, 4, .inl t_forms)), (q_t_sizes, .inl (cI, 4, .inl t_sizes)), (q_t_items, .inl (cI, 400, .inl t_items)), (q_t_moved, .inl (cI, 100, .inl t_moved))]) hA hw [0] [1, 2, 3, 4, 5] [5, 0, 1, 2, 3, 4] rfl rfl rfl (by decide) rfl rfl (va_runV (As := [.int (2 : Int32)]) (rest := []) S (c_X7_meets l D cI cZ cJ cO _ q_t q_t_boxes q_t_next q_t_left q_t_pairs q_t_lengths q_t_riggings q_t_toldLength q_t_toldRigging q_t_toldRoom q_t_ring q_t_was q_t_saved q_t_isThere q_t_forms q_t_sizes q_t_items q_t_moved N (2 : Int32) t_done t_many t_told t_ringN t_finding r22 u23 h24) (cwV 1 hts gX7_copy_X7_meets rfl rfl rfl (by decide +kernel) ⟨Nat.le_of_ble_eq_true rfl, Nat.le_of_ble_eq_true rfl⟩) (pre_V hK hN hw [0] rfl rfl (C := RX7) (T := TX7) (N := 22) (ci := 7) (q0 := 0) rfl rfl) rfl rfl hl.1 rfl (lv_room (Nat.le_of_ble_eq_true rfl)) dX7_copy_113 ⟨Nat.zero_le _, Nat.zero_le _⟩) (fun H locs hw => ?_)
                obtain ⟨rfl, rfl, rfl, rfl⟩ := pr4 (Option.some.inj hf)
                exact rt_i S hr hlk hw dX7_copy_116
              · have hf := (if_neg c21).symm.trans hf
                refine lv_iload hx hb dX7_copy_71 (lv_at hl 5 rfl) ?_
                refine lv_if_lt (tgt := 111) hx hb dX7_copy_73 (by decide) (fun c25 => ?_) (fun c25 => ?_)
                · have hf := (if_pos c25).symm.trans hf
                  refine lv_aload_n hx hb dX7_copy_111 rfl (lv_at hl 0 rfl) ?_
                  refine lv_iconst (v := (2 : Int32)) hx hb dX7_copy_112 (by decide) ?_
                  obtain ⟨r26, u27, h28, hf⟩ := bd2_some hf
                  refine cl_i (wr := [(q_t_isThere, .inl (cZ, 4, .inl t_isThere)), (q_t_forms, .inl (cI, 4, .inl t_forms)), (q_t_sizes, .inl (cI, 4, .inl t_sizes)), (q_t_items, .inl (cI, 400, .inl t_items)), (q_t_moved, .inl (cI, 100, .inl t_moved))]) (ws' := [(q_t, .inr (7, [.ref q_t_boxes, .ref q_t_next, .int t_done, .ref q_t_left, .ref q_t_pairs, .int t_many, .ref q_t_lengths, .ref q_t_riggings, .int t_told, .ref q_t_toldLength, .ref q_t_toldRigging, .ref q_t_toldRoom, .int t_ringN, .ref q_t_ring, .ref q_t_was, .ref q_t_saved, .ref q_t_isThere, .ref q_t_forms, .ref q_t_sizes, .ref q_t_items, .ref q_t_moved, .int u27])), (q_t_isThere, .inl (cZ, 4, .inl t_isThere)), (q_t_forms, .inl (cI, 4, .inl t_forms)), (q_t_sizes, .inl (cI, 4, .inl t_sizes)), (q_t_items, .inl (cI, 400, .inl t_items)), (q_t_moved, .inl (cI, 100, .inl t_moved))]) hA hw [0] [1, 2, 3, 4, 5] [5, 0, 1, 2, 3, 4] rfl rfl rfl (by decide) rfl rfl (va_runV (As := [.int (2 : Int32)]) (rest := []) S (c_X7_meets l D cI cZ cJ cO _ q_t q_t_boxes q_t_next q_t_left q_t_pairs q_t_lengths q_t_riggings q_t_toldLength q_t_toldRigging q_t_toldRoom q_t_ring q_t_was q_t_saved q_t_isThere q_t_forms q_t_sizes q_t_items q_t_moved N (2 : Int32) t_done t_many t_told t_ringN t_finding r26 u27 h28) (cwV 1 hts gX7_copy_X7_meets rfl rfl rfl (by decide +kernel) ⟨Nat.le_of_ble_eq_true rfl, Nat.le_of_ble_eq_true rfl⟩) (pre_V hK hN hw [0] rfl rfl (C := RX7) (T := TX7) (N := 22) (ci := 7) (q0 := 0) rfl rfl) rfl rfl hl.1 rfl (lv_room (Nat.le_of_ble_eq_true rfl)) dX7_copy_113 ⟨Nat.zero_le _, Nat.zero_le _⟩) (fun H locs hw => ?_)
                  obtain ⟨rfl, rfl, rfl, rfl⟩ := pr4 (Option.some.inj hf)
                  exact rt_i S hr hlk hw dX7_copy_116
                · have hf := (if_neg c25).symm.trans hf
                  refine lv_iload_n hx hb dX7_copy_76 rfl (lv_at hl 2 rfl) ?_
                  refine lv_i2l (v := p2.toInt64) hx hb dX7_copy_77 rfl ?_
                  refine lv_iload hx hb dX7_copy_78 (lv_at hl 5 rfl) ?_
                  refine lv_i2l (v := p5.toInt64) hx hb dX7_copy_80 rfl ?_
                  refine lv_ladd hx hb dX7_copy_81 ?_
                  refine lv_aload_n hx hb dX7_copy_82 rfl (lv_at hl 0 rfl) ?_
                  refine g_get (ci := 7) (C := RX7) (T := TX7) (N := 22) S hinX7 hK hw 0 18 k57 dX7_copy_83 rfl rfl (by decide) rfl ?_
                  refine lv_iload_n hx hb dX7_copy_86 rfl (lv_at hl 1 rfl) ?_
                  obtain ⟨b29, hf⟩ := ck_some hf
                  refine g_iald S hK hw 3 0 b29 dX7_copy_87 rfl rfl ?_
                  refine lv_i2l (v := (t_sizes p1.toNatClampNeg).toInt64) hx hb dX7_copy_88 rfl ?_
                  refine W.lcmp hx hb dX7_copy_89 ?_
                  refine lv_if_gt (tgt := 111) hx hb dX7_copy_90 (by decide) (fun c30 => ?_) (fun c30 => ?_)
                  · have hf := (if_pos c30).symm.trans hf
                    refine lv_aload_n hx hb dX7_copy_111 rfl (lv_at hl 0 rfl) ?_
                    refine lv_iconst (v := (2 : Int32)) hx hb dX7_copy_112 (by decide) ?_
                    obtain ⟨r31, u32, h33, hf⟩ := bd2_some hf
                    refine cl_i (wr := [(q_t_isThere, .inl (cZ, 4, .inl t_isThere)), (q_t_forms, .inl (cI, 4, .inl t_forms)), (q_t_sizes, .inl (cI, 4, .inl t_sizes)), (q_t_items, .inl (cI, 400, .inl t_items)), (q_t_moved, .inl (cI, 100, .inl t_moved))]) (ws' := [(q_t, .inr (7, [.ref q_t_boxes, .ref q_t_next, .int t_done, .ref q_t_left, .ref q_t_pairs, .int t_many, .ref q_t_lengths, .ref q_t_riggings, .int t_told, .ref q_t_toldLength, .ref q_t_toldRigging, .ref q_t_toldRoom, .int t_ringN, .ref q_t_ring, .ref q_t_was, .ref q_t_saved, .ref q_t_isThere, .ref q_t_forms, .ref q_t_sizes, .ref q_t_items, .ref q_t_moved, .int u32])), (q_t_isThere, .inl (cZ, 4, .inl t_isThere)), (q_t_forms, .inl (cI, 4, .inl t_forms)), (q_t_sizes, .inl (cI, 4, .inl t_sizes)), (q_t_items, .inl (cI, 400, .inl t_items)), (q_t_moved, .inl (cI, 100, .inl t_moved))]) hA hw [0] [1, 2, 3, 4, 5] [5, 0, 1, 2, 3, 4] rfl rfl rfl (by decide) rfl rfl (va_runV (As := [.int (2 : Int32)]) (rest := []) S (c_X7_meets l D cI cZ cJ cO _ q_t q_t_boxes q_t_next q_t_left q_t_pairs q_t_lengths q_t_riggings q_t_toldLength q_t_toldRigging q_t_toldRoom q_t_ring q_t_was q_t_saved q_t_isThere q_t_forms q_t_sizes q_t_items q_t_moved N (2 : Int32) t_done t_many t_told t_ringN t_finding r31 u32 h33) (cwV 1 hts gX7_copy_X7_meets rfl rfl rfl (by decide +kernel) ⟨Nat.le_of_ble_eq_true rfl, Nat.le_of_ble_eq_true rfl⟩) (pre_V hK hN hw [0] rfl rfl (C := RX7) (T := TX7) (N := 22) (ci := 7) (q0 := 0) rfl rfl) rfl rfl hl.1 rfl (lv_room (Nat.le_of_ble_eq_true rfl)) dX7_copy_113 ⟨Nat.zero_le _, Nat.zero_le _⟩) (fun H locs hw => ?_)
                    obtain ⟨rfl, rfl, rfl, rfl⟩ := pr4 (Option.some.inj hf)
                    exact rt_i S hr hlk hw dX7_copy_116
                  · have hf := (if_neg c30).symm.trans hf
                    refine lv_iload hx hb dX7_copy_93 (lv_at hl 4 rfl) ?_
                    refine lv_i2l (v := p4.toInt64) hx hb dX7_copy_95 rfl ?_
                    refine lv_iload hx hb dX7_copy_96 (lv_at hl 5 rfl) ?_
                    refine lv_i2l (v := p5.toInt64) hx hb dX7_copy_98 rfl ?_
                    refine lv_ladd hx hb dX7_copy_99 ?_
                    refine lv_aload_n hx hb dX7_copy_100 rfl (lv_at hl 0 rfl) ?_
                    refine g_get (ci := 7) (C := RX7) (T := TX7) (N := 22) S hinX7 hK hw 0 18 k57 dX7_copy_101 rfl rfl (by decide) rfl ?_
                    refine lv_iload_n hx hb dX7_copy_104 rfl (lv_at hl 3 rfl) ?_
                    obtain ⟨b34, hf⟩ := ck_some hf
                    refine g_iald S hK hw 3 0 b34 dX7_copy_105 rfl rfl ?_
                    refine lv_i2l (v := (t_sizes p3.toNatClampNeg).toInt64) hx hb dX7_copy_106 rfl ?_
                    refine W.lcmp hx hb dX7_copy_107 ?_
                    refine lv_if_le (tgt := 117) hx hb dX7_copy_108 (by decide) (fun c35 => ?_) (fun c35 => ?_)
                    · have hf := (if_pos c35).symm.trans hf
                      refine lv_iconst (v := (0 : Int32)) hx hb dX7_copy_117 (by decide) ?_
                      refine lv_istore (lv' := [(6, .int (0 : Int32)), (0, .ref q_t), (1, .int p1), (2, .int p2), (3, .int p3), (4, .int p4), (5, .int p5)]) hx hb dX7_copy_118 hl (by decide) rfl (fun ls hl => ?_)
                      refine Lp120 p1 p2 p3 p4 p5 t_finding t_items _ (fun u39 H locs ls hw hl hf => ?_) N (0 : Int32) t_moved _ _ _ hw (lv_sub hl [1, 2, 3, 4, 5, 6, 0] rfl) hf
                      refine lv_iconst (v := (0 : Int32)) hx hb dX7_copy_154 (by decide) ?_
                      refine lv_istore (lv' := [(6, .int (0 : Int32)), (0, .ref q_t), (3, .int p3), (4, .int p4), (5, .int p5)]) hx hb dX7_copy_155 hl (by decide) rfl (fun ls hl => ?_)
                      refine Lp157 p3 p4 p5 t_finding u39 _ (fun u43 H locs ls hw hl hf => ?_) N (0 : Int32) t_items _ _ _ hw (lv_sub hl [1, 2, 3, 4, 0] rfl) hf
                      refine lv_iconst (v := (1 : Int32)) hx hb dX7_copy_192 (by decide) ?_
                      obtain ⟨rfl, rfl, rfl, rfl⟩ := pr4 (Option.some.inj hf)
                      exact rt_i S hr hlk hw dX7_copy_193
                    · have hf := (if_neg c35).symm.trans hf
                      refine lv_aload_n hx hb dX7_copy_111 rfl (lv_at hl 0 rfl) ?_
                      refine lv_iconst (v := (2 : Int32)) hx hb dX7_copy_112 (by decide) ?_
                      obtain ⟨r44, u45, h46, hf⟩ := bd2_some hf
                      refine cl_i (wr := [(q_t_isThere, .inl (cZ, 4, .inl t_isThere)), (q_t_forms, .inl (cI, 4, .inl t_forms)), (q_t_sizes, .inl (cI, 4, .inl t_sizes)), (q_t_items, .inl (cI, 400, .inl t_items)), (q_t_moved, .inl (cI, 100, .inl t_moved))]) (ws' := [(q_t, .inr (7, [.ref q_t_boxes, .ref q_t_next, .int t_done, .ref q_t_left, .ref q_t_pairs, .int t_many, .ref q_t_lengths, .ref q_t_riggings, .int t_told, .ref q_t_toldLength, .ref q_t_toldRigging, .ref q_t_toldRoom, .int t_ringN, .ref q_t_ring, .ref q_t_was, .ref q_t_saved, .ref q_t_isThere, .ref q_t_forms, .ref q_t_sizes, .ref q_t_items, .ref q_t_moved, .int u45])), (q_t_isThere, .inl (cZ, 4, .inl t_isThere)), (q_t_forms, .inl (cI, 4, .inl t_forms)), (q_t_sizes, .inl (cI, 4, .inl t_sizes)), (q_t_items, .inl (cI, 400, .inl t_items)), (q_t_moved, .inl (cI, 100, .inl t_moved))]) hA hw [0] [1, 2, 3, 4, 5] [5, 0, 1, 2, 3, 4] rfl rfl rfl (by decide) rfl rfl (va_runV (As := [.int (2 : Int32)]) (rest := []) S (c_X7_meets l D cI cZ cJ cO _ q_t q_t_boxes q_t_next q_t_left q_t_pairs q_t_lengths q_t_riggings q_t_toldLength q_t_toldRigging q_t_toldRoom q_t_ring q_t_was q_t_saved q_t_isThere q_t_forms q_t_sizes q_t_items q_t_moved N (2 : Int32) t_done t_many t_told t_ringN t_finding r44 u45 h46) (cwV 1 hts gX7_copy_X7_meets rfl rfl rfl (by decide +kernel) ⟨Nat.le_of_ble_eq_true rfl, Nat.le_of_ble_eq_true rfl⟩) (pre_V hK hN hw [0] rfl rfl (C := RX7) (T := TX7) (N := 22) (ci := 7) (q0 := 0) rfl rfl) rfl rfl hl.1 rfl (lv_room (Nat.le_of_ble_eq_true rfl)) dX7_copy_113 ⟨Nat.zero_le _, Nat.zero_le _⟩) (fun H locs hw => ?_)
                      obtain ⟨rfl, rfl, rfl, rfl⟩ := pr4 (Option.some.inj hf)
                      exact rt_i S hr hlk hw dX7_copy_116
          · have hf := (if_neg c16).symm.trans hf
            refine lv_aload_n hx hb dX7_copy_56 rfl (lv_at hl 0 rfl) ?_
            refine lv_iconst (v := (4 : Int32)) hx hb dX7_copy_57 (by decide) ?_
            obtain ⟨r47, u48, h49, hf⟩ := bd2_some hf
            refine cl_i (wr := [(q_t_isThere, .inl (cZ, 4, .inl t_isThere)), (q_t_forms, .inl (cI, 4, .inl t_forms)), (q_t_sizes, .inl (cI, 4, .inl t_sizes)), (q_t_items, .inl (cI, 400, .inl t_items)), (q_t_moved, .inl (cI, 100, .inl t_moved))]) (ws' := [(q_t, .inr (7, [.ref q_t_boxes, .ref q_t_next, .int t_done, .ref q_t_left, .ref q_t_pairs, .int t_many, .ref q_t_lengths, .ref q_t_riggings, .int t_told, .ref q_t_toldLength, .ref q_t_toldRigging, .ref q_t_toldRoom, .int t_ringN, .ref q_t_ring, .ref q_t_was, .ref q_t_saved, .ref q_t_isThere, .ref q_t_forms, .ref q_t_sizes, .ref q_t_items, .ref q_t_moved, .int u48])), (q_t_isThere, .inl (cZ, 4, .inl t_isThere)), (q_t_forms, .inl (cI, 4, .inl t_forms)), (q_t_sizes, .inl (cI, 4, .inl t_sizes)), (q_t_items, .inl (cI, 400, .inl t_items)), (q_t_moved, .inl (cI, 100, .inl t_moved))]) hA hw [0] [1, 2, 3, 4, 5] [5, 0, 1, 2, 3, 4] rfl rfl rfl (by decide) rfl rfl (va_runV (As := [.int (4 : Int32)]) (rest := []) S (c_X7_meets l D cI cZ cJ cO _ q_t q_t_boxes q_t_next q_t_left q_t_pairs q_t_lengths q_t_riggings q_t_toldLength q_t_toldRigging q_t_toldRoom q_t_ring q_t_was q_t_saved q_t_isThere q_t_forms q_t_sizes q_t_items q_t_moved N (4 : Int32) t_done t_many t_told t_ringN t_finding r47 u48 h49) (cwV 1 hts gX7_copy_X7_meets rfl rfl rfl (by decide +kernel) ⟨Nat.le_of_ble_eq_true rfl, Nat.le_of_ble_eq_true rfl⟩) (pre_V hK hN hw [0] rfl rfl (C := RX7) (T := TX7) (N := 22) (ci := 7) (q0 := 0) rfl rfl) rfl rfl hl.1 rfl (lv_room (Nat.le_of_ble_eq_true rfl)) dX7_copy_58 ⟨Nat.zero_le _, Nat.zero_le _⟩) (fun H locs hw => ?_)
            obtain ⟨rfl, rfl, rfl, rfl⟩ := pr4 (Option.some.inj hf)
            exact rt_i S hr hlk hw dX7_copy_61
        · have hf := (if_pos c13).symm.trans hf
          refine lv_aload_n hx hb dX7_copy_35 rfl (lv_at hl 0 rfl) ?_
          refine lv_iconst (v := (1 : Int32)) hx hb dX7_copy_36 (by decide) ?_
          obtain ⟨r50, u51, h52, hf⟩ := bd2_some hf
          refine cl_i (wr := [(q_t_isThere, .inl (cZ, 4, .inl t_isThere)), (q_t_forms, .inl (cI, 4, .inl t_forms)), (q_t_sizes, .inl (cI, 4, .inl t_sizes)), (q_t_items, .inl (cI, 400, .inl t_items)), (q_t_moved, .inl (cI, 100, .inl t_moved))]) (ws' := [(q_t, .inr (7, [.ref q_t_boxes, .ref q_t_next, .int t_done, .ref q_t_left, .ref q_t_pairs, .int t_many, .ref q_t_lengths, .ref q_t_riggings, .int t_told, .ref q_t_toldLength, .ref q_t_toldRigging, .ref q_t_toldRoom, .int t_ringN, .ref q_t_ring, .ref q_t_was, .ref q_t_saved, .ref q_t_isThere, .ref q_t_forms, .ref q_t_sizes, .ref q_t_items, .ref q_t_moved, .int u51])), (q_t_isThere, .inl (cZ, 4, .inl t_isThere)), (q_t_forms, .inl (cI, 4, .inl t_forms)), (q_t_sizes, .inl (cI, 4, .inl t_sizes)), (q_t_items, .inl (cI, 400, .inl t_items)), (q_t_moved, .inl (cI, 100, .inl t_moved))]) hA hw [0] [1, 2, 3, 4, 5] [5, 0, 1, 2, 3, 4] rfl rfl rfl (by decide) rfl rfl (va_runV (As := [.int (1 : Int32)]) (rest := []) S (c_X7_meets l D cI cZ cJ cO _ q_t q_t_boxes q_t_next q_t_left q_t_pairs q_t_lengths q_t_riggings q_t_toldLength q_t_toldRigging q_t_toldRoom q_t_ring q_t_was q_t_saved q_t_isThere q_t_forms q_t_sizes q_t_items q_t_moved N (1 : Int32) t_done t_many t_told t_ringN t_finding r50 u51 h52) (cwV 1 hts gX7_copy_X7_meets rfl rfl rfl (by decide +kernel) ⟨Nat.le_of_ble_eq_true rfl, Nat.le_of_ble_eq_true rfl⟩) (pre_V hK hN hw [0] rfl rfl (C := RX7) (T := TX7) (N := 22) (ci := 7) (q0 := 0) rfl rfl) rfl rfl hl.1 rfl (lv_room (Nat.le_of_ble_eq_true rfl)) dX7_copy_37 ⟨Nat.zero_le _, Nat.zero_le _⟩) (fun H locs hw => ?_)
          obtain ⟨rfl, rfl, rfl, rfl⟩ := pr4 (Option.some.inj hf)
          exact rt_i S hr hlk hw dX7_copy_40
    · have hf := (if_pos c6).symm.trans hf
      refine lv_bipush (v := (-2 : Int32)) hx hb dX7_copy_14 (by decide) ?_
      obtain ⟨rfl, rfl, rfl, rfl⟩ := pr4 (Option.some.inj hf)
      exact rt_i S hr hlk hw dX7_copy_16

def L_X7_load_58 (N : Nat) (x1 : Int32) (x2 : Int32) (t_sizes : (Nat → Int32)) (t_items : (Nat → Int32)) (K : (Nat → Int32) → Option (Int32 × Int32 × (Nat → Int32))) : Nat → Int32 → (Nat → Int32) → Option (Int32 × Int32 × (Nat → Int32))
  | 0, _, _ => none
  | n + 1, x3, w_t_boxes => (ck (inb x1 4) (if (t_sizes x1.toNatClampNeg) ≤ x3 then (K w_t_boxes) else (ck (inb (((100 : Int32) * x1) + x3) 400) (if (t_items (((100 : Int32) * x1) + x3).toNatClampNeg) ≤ (0 : Int32) then (ck (inb (x2 + x3) 240) (L_X7_load_58 N x1 x2 t_sizes t_items K n (x3 + (1 : Int32)) (upd w_t_boxes (x2 + x3).toNatClampNeg (vp_nar .boolean (0 : Int32))))) else (ck (inb (x2 + x3) 240) (L_X7_load_58 N x1 x2 t_sizes t_items K n (x3 + (1 : Int32)) (upd w_t_boxes (x2 + x3).toNatClampNeg (vp_nar .boolean (1 : Int32)))))))))

def f_X7_load (N : Nat) (p1 : Int32) (p2 : Int32) (t_finding : Int32) (t_boxes : (Nat → Int32)) (t_isThere : (Nat → Int32)) (t_sizes : (Nat → Int32)) (t_items : (Nat → Int32)) : Option (Int32 × Int32 × (Nat → Int32)) :=
  (bd1 (f_X7_isSheet N p1) (fun r1 => (if r1 = (0 : Int32) then (some ((-2 : Int32), t_finding, t_boxes)) else (bd1 (f_X7_in N p2 (0 : Int32) (239 : Int32)) (fun r4 => (if r4 = (0 : Int32) then (some ((-2 : Int32), t_finding, t_boxes)) else (ck (inb p1 4) (if (t_isThere p1.toNatClampNeg) = (0 : Int32) then (bd2 (f_X7_meets N (1 : Int32) t_finding) (fun r22 u23 => (some (r22, u23, t_boxes)))) else (ck (inb p1 4) (if (p2 + (t_sizes p1.toNatClampNeg)) ≤ (240 : Int32) then (L_X7_load_58 N p1 p2 t_sizes t_items (fun u17 => (ck (inb p1 4) (some ((t_sizes p1.toNatClampNeg), t_finding, u17)))) N (0 : Int32) t_boxes) else (bd2 (f_X7_meets N (2 : Int32) t_finding) (fun r19 u20 => (some (r19, u20, t_boxes))))))))))))))

set_option maxHeartbeats 4000000 in
set_option maxRecDepth 100000 in
theorem c_X7_load (l : Launch) (D : va_G) (cI cZ cJ cO : ClassId) (sz : Nat) (q_t q_t_boxes q_t_next q_t_left q_t_pairs q_t_lengths q_t_riggings q_t_toldLength q_t_toldRigging q_t_toldRoom q_t_ring q_t_was q_t_saved q_t_isThere q_t_forms q_t_sizes q_t_items q_t_moved : Nat) (N : Nat) (p1 : Int32) (p2 : Int32) (t_done : Int32) (t_many : Int32) (t_told : Int32) (t_ringN : Int32) (t_finding : Int32) (t_boxes : (Nat → Int32)) (t_isThere : (Nat → Int32)) (t_sizes : (Nat → Int32)) (t_items : (Nat → Int32)) (r : Int32) (o_t_finding : Int32) (o_t_boxes : (Nat → Int32)) (hf : f_X7_load N p1 p2 t_finding t_boxes t_isThere t_sizes t_items = some (r, o_t_finding, o_t_boxes)) : Met l yX7_load wsX7_load ({ frames := 2, cells := 0, slots := 0, locals := 42 }) (PreC D (TY cI cZ cJ cO) [.ref q_t, .int p1, .int p2] [(q_t, .inr (7, [.ref q_t_boxes, .ref q_t_next, .int t_done, .ref q_t_left, .ref q_t_pairs, .int t_many, .ref q_t_lengths, .ref q_t_riggings, .int t_told, .ref q_t_toldLength, .ref q_t_toldRigging, .ref q_t_toldRoom, .int t_ringN, .ref q_t_ring, .ref q_t_was, .ref q_t_saved, .ref q_t_isThere, .ref q_t_forms, .ref q_t_sizes, .ref q_t_items, .ref q_t_moved, .int t_finding])), (q_t_boxes, .inl (cZ, 240, .inl t_boxes)), (q_t_isThere, .inl (cZ, 4, .inl t_isThere)), (q_t_sizes, .inl (cI, 4, .inl t_sizes)), (q_t_items, .inl (cI, 400, .inl t_items))] sz) (QcI D [(q_t, .inr (7, [.ref q_t_boxes, .ref q_t_next, .int t_done, .ref q_t_left, .ref q_t_pairs, .int t_many, .ref q_t_lengths, .ref q_t_riggings, .int t_told, .ref q_t_toldLength, .ref q_t_toldRigging, .ref q_t_toldRoom, .int t_ringN, .ref q_t_ring, .ref q_t_was, .ref q_t_saved, .ref q_t_isThere, .ref q_t_forms, .ref q_t_sizes, .ref q_t_items, .ref q_t_moved, .int o_t_finding])), (q_t_boxes, .inl (cZ, 240, .inl o_t_boxes)), (q_t_isThere, .inl (cZ, 4, .inl t_isThere)), (q_t_sizes, .inl (cI, 4, .inl t_sizes)), (q_t_items, .inl (cI, 400, .inl t_items))] (va_A [(q_t, .inr (7, [.ref q_t_boxes, .ref q_t_next, .int t_done, .ref q_t_left, .ref q_t_pairs, .int t_many, .ref q_t_lengths, .ref q_t_riggings, .int t_told, .ref q_t_toldLength, .ref q_t_toldRigging, .ref q_t_toldRoom, .int t_ringN, .ref q_t_ring, .ref q_t_was, .ref q_t_saved, .ref q_t_isThere, .ref q_t_forms, .ref q_t_sizes, .ref q_t_items, .ref q_t_moved, .int t_finding])), (q_t_boxes, .inl (cZ, 240, .inl t_boxes)), (q_t_isThere, .inl (cZ, 4, .inl t_isThere)), (q_t_sizes, .inl (cI, 4, .inl t_sizes)), (q_t_items, .inl (cI, 400, .inl t_items))] sz) r) 0 0 (va_A [(q_t, .inr (7, [.ref q_t_boxes, .ref q_t_next, .int t_done, .ref q_t_left, .ref q_t_pairs, .int t_many, .ref q_t_lengths, .ref q_t_riggings, .int t_told, .ref q_t_toldLength, .ref q_t_toldRigging, .ref q_t_toldRoom, .int t_ringN, .ref q_t_ring, .ref q_t_was, .ref q_t_saved, .ref q_t_isThere, .ref q_t_forms, .ref q_t_sizes, .ref q_t_items, .ref q_t_moved, .int t_finding])), (q_t_boxes, .inl (cZ, 240, .inl t_boxes)), (q_t_isThere, .inl (cZ, 4, .inl t_isThere)), (q_t_sizes, .inl (cI, 4, .inl t_sizes)), (q_t_items, .inl (cI, 400, .inl t_items))] sz) := by
  refine ctr (cc := cX7_load) (maxL := 4) (ret := (some .int)) (by decide) rfl (Nat.le_of_ble_eq_true rfl) ?_
  intro p e s m below meth c S hr hlk hnm hK hN hsz hA hw ls hl
  generalize va_A [(q_t, .inr (7, [.ref q_t_boxes, .ref q_t_next, .int t_done, .ref q_t_left, .ref q_t_pairs, .int t_many, .ref q_t_lengths, .ref q_t_riggings, .int t_told, .ref q_t_toldLength, .ref q_t_toldRigging, .ref q_t_toldRoom, .int t_ringN, .ref q_t_ring, .ref q_t_was, .ref q_t_saved, .ref q_t_isThere, .ref q_t_forms, .ref q_t_sizes, .ref q_t_items, .ref q_t_moved, .int t_finding])), (q_t_boxes, .inl (cZ, 240, .inl t_boxes)), (q_t_isThere, .inl (cZ, 4, .inl t_isThere)), (q_t_sizes, .inl (cI, 4, .inl t_sizes)), (q_t_items, .inl (cI, 400, .inl t_items))] sz = A at hA hw ⊢
  have S : CallFix p m c cX7_load 4 s ([.ref q_t, .int p1, .int p2] : List Value).toArray wsX7_load RX7 := S
  have hx := S.1
  have hb := S.2.1
  have hts := S.2.2.2.2
  have hl : lv_has ls 4 [(0, .ref q_t), (1, .int p1), (2, .int p2)] := hl
  have hinX7 : ∀ w ∈ u_ws RX7 TX7 22, w ∈ wsX7_load := by decide +kernel
  have k7 : Cond.fieldLink RX7 7 "BallBoxesModel" "boxes" "[Z" ∈ wsX7_load := by decide +kernel
  have k51 : Cond.fieldLink RX7 51 "BallBoxesModel" "isThere" "[Z" ∈ wsX7_load := by decide +kernel
  have k57 : Cond.fieldLink RX7 57 "BallBoxesModel" "sizes" "[I" ∈ wsX7_load := by decide +kernel
  have k60 : Cond.fieldLink RX7 60 "BallBoxesModel" "items" "[I" ∈ wsX7_load := by decide +kernel
  have Lp58 : ∀ (x1 : Int32) (x2 : Int32) (w_t_finding : Int32) (K : (Nat → Int32) → Option (Int32 × Int32 × (Nat → Int32))), (∀ (z_t_boxes : (Nat → Int32)) (H : Heap) (locs : List Loc) (ls : Array Slot), Wd D A s.heap [(q_t, .inr (7, [.ref q_t_boxes, .ref q_t_next, .int t_done, .ref q_t_left, .ref q_t_pairs, .int t_many, .ref q_t_lengths, .ref q_t_riggings, .int t_told, .ref q_t_toldLength, .ref q_t_toldRigging, .ref q_t_toldRoom, .int t_ringN, .ref q_t_ring, .ref q_t_was, .ref q_t_saved, .ref q_t_isThere, .ref q_t_forms, .ref q_t_sizes, .ref q_t_items, .ref q_t_moved, .int w_t_finding])), (q_t_boxes, .inl (cZ, 240, .inl z_t_boxes)), (q_t_isThere, .inl (cZ, 4, .inl t_isThere)), (q_t_sizes, .inl (cI, 4, .inl t_sizes)), (q_t_items, .inl (cI, 400, .inl t_items))] H locs → lv_has ls 4 [(0, .ref q_t), (1, .int x1)] → K z_t_boxes = some (r, o_t_finding, o_t_boxes) → W p l e ({ frames := 2, cells := 0, slots := 0, locals := 42 } : Room) s m ([.ref q_t, .int p1, .int p2] : List Value).toArray below meth c H locs 0 0 (MQ below (QcI D [(q_t, .inr (7, [.ref q_t_boxes, .ref q_t_next, .int t_done, .ref q_t_left, .ref q_t_pairs, .int t_many, .ref q_t_lengths, .ref q_t_riggings, .int t_told, .ref q_t_toldLength, .ref q_t_toldRigging, .ref q_t_toldRoom, .int t_ringN, .ref q_t_ring, .ref q_t_was, .ref q_t_saved, .ref q_t_isThere, .ref q_t_forms, .ref q_t_sizes, .ref q_t_items, .ref q_t_moved, .int o_t_finding])), (q_t_boxes, .inl (cZ, 240, .inl o_t_boxes)), (q_t_isThere, .inl (cZ, 4, .inl t_isThere)), (q_t_sizes, .inl (cI, 4, .inl t_sizes)), (q_t_items, .inl (cI, 400, .inl t_items))] A r) ([.ref q_t, .int p1, .int p2] : List Value).toArray s 0 0 A) (F0 m 101 ls [])) → ∀ (n : Nat) (x3 : Int32) (w_t_boxes : (Nat → Int32)) (H : Heap) (locs : List Loc) (ls : Array Slot), Wd D A s.heap [(q_t, .inr (7, [.ref q_t_boxes, .ref q_t_next, .int t_done, .ref q_t_left, .ref q_t_pairs, .int t_many, .ref q_t_lengths, .ref q_t_riggings, .int t_told, .ref q_t_toldLength, .ref q_t_toldRigging, .ref q_t_toldRoom, .int t_ringN, .ref q_t_ring, .ref q_t_was, .ref q_t_saved, .ref q_t_isThere, .ref q_t_forms, .ref q_t_sizes, .ref q_t_items, .ref q_t_moved, .int w_t_finding])), (q_t_boxes, .inl (cZ, 240, .inl w_t_boxes)), (q_t_isThere, .inl (cZ, 4, .inl t_isThere)), (q_t_sizes, .inl (cI, 4, .inl t_sizes)), (q_t_items, .inl (cI, 400, .inl t_items))] H locs → lv_has ls 4 [(0, .ref q_t), (1, .int x1), (2, .int x2), (3, .int x3)] → L_X7_load_58 N x1 x2 t_sizes t_items K n x3 w_t_boxes = some (r, o_t_finding, o_t_boxes) → W p l e ({ frames := 2, cells := 0, slots := 0, locals := 42 } : Room) s m ([.ref q_t, .int p1, .int p2] : List Value).toArray below meth c H locs 0 0 (MQ below (QcI D [(q_t, .inr (7, [.ref q_t_boxes, .ref q_t_next, .int t_done, .ref q_t_left, .ref q_t_pairs, .int t_many, .ref q_t_lengths, .ref q_t_riggings, .int t_told, .ref q_t_toldLength, .ref q_t_toldRigging, .ref q_t_toldRoom, .int t_ringN, .ref q_t_ring, .ref q_t_was, .ref q_t_saved, .ref q_t_isThere, .ref q_t_forms, .ref q_t_sizes, .ref q_t_items, .ref q_t_moved, .int o_t_finding])), (q_t_boxes, .inl (cZ, 240, .inl o_t_boxes)), (q_t_isThere, .inl (cZ, 4, .inl t_isThere)), (q_t_sizes, .inl (cI, 4, .inl t_sizes)), (q_t_items, .inl (cI, 400, .inl t_items))] A r) ([.ref q_t, .int p1, .int p2] : List Value).toArray s 0 0 A) (F0 m 58 ls []) := by
    intro x1 x2 w_t_finding K hKx n
    induction n with
    | zero =>
      intro x3 w_t_boxes H locs ls hw hl hf
      rw [L_X7_load_58] at hf
      cases hf
    | succ n ih =>
      intro x3 w_t_boxes H locs ls hw hl hf
      rw [L_X7_load_58] at hf
      refine lv_iload_n hx hb dX7_load_58 rfl (lv_at hl 3 rfl) ?_
      refine lv_aload_n hx hb dX7_load_59 rfl (lv_at hl 0 rfl) ?_
      refine g_get (ci := 7) (C := RX7) (T := TX7) (N := 22) S hinX7 hK hw 0 18 k57 dX7_load_60 rfl rfl (by decide) rfl ?_
      refine lv_iload_n hx hb dX7_load_63 rfl (lv_at hl 1 rfl) ?_
      obtain ⟨b11, hf⟩ := ck_some hf
      refine g_iald S hK hw 3 0 b11 dX7_load_64 rfl rfl ?_
      refine lv_icmp_ge (tgt := 101) hx hb dX7_load_65 (by decide) (fun c12 => ?_) (fun c12 => ?_)
      · have hf := (if_pos c12).symm.trans hf
        exact hKx w_t_boxes _ _ _ hw (lv_sub hl [0, 1] rfl) hf
      · have hf := (if_neg c12).symm.trans hf
        refine lv_aload_n hx hb dX7_load_68 rfl (lv_at hl 0 rfl) ?_
        refine g_get (ci := 7) (C := RX7) (T := TX7) (N := 22) S hinX7 hK hw 0 0 k7 dX7_load_69 rfl rfl (by decide) rfl ?_
        refine lv_iload_n hx hb dX7_load_72 rfl (lv_at hl 2 rfl) ?_
        refine lv_iload_n hx hb dX7_load_73 rfl (lv_at hl 3 rfl) ?_
        refine lv_iadd hx hb dX7_load_74 ?_
        refine lv_aload_n hx hb dX7_load_75 rfl (lv_at hl 0 rfl) ?_
        refine g_get (ci := 7) (C := RX7) (T := TX7) (N := 22) S hinX7 hK hw 0 19 k60 dX7_load_76 rfl rfl (by decide) rfl ?_
        refine lv_bipush (v := (100 : Int32)) hx hb dX7_load_79 (by decide) ?_
        refine lv_iload_n hx hb dX7_load_81 rfl (lv_at hl 1 rfl) ?_
        refine lv_imul hx hb dX7_load_82 ?_
        refine lv_iload_n hx hb dX7_load_83 rfl (lv_at hl 3 rfl) ?_
        refine lv_iadd hx hb dX7_load_84 ?_
        obtain ⟨b13, hf⟩ := ck_some hf
        refine g_iald S hK hw 4 0 b13 dX7_load_85 rfl rfl ?_
        refine lv_if_le (tgt := 93) hx hb dX7_load_86 (by decide) (fun c14 => ?_) (fun c14 => ?_)
        · have hf := (if_pos c14).symm.trans hf
          refine lv_iconst (v := (0 : Int32)) hx hb dX7_load_93 (by decide) ?_
          obtain ⟨b15, hf⟩ := ck_some hf
          refine g_zast (ws' := [(q_t, .inr (7, [.ref q_t_boxes, .ref q_t_next, .int t_done, .ref q_t_left, .ref q_t_pairs, .int t_many, .ref q_t_lengths, .ref q_t_riggings, .int t_told, .ref q_t_toldLength, .ref q_t_toldRigging, .ref q_t_toldRoom, .int t_ringN, .ref q_t_ring, .ref q_t_was, .ref q_t_saved, .ref q_t_isThere, .ref q_t_forms, .ref q_t_sizes, .ref q_t_items, .ref q_t_moved, .int w_t_finding])), (q_t_boxes, .inl (cZ, 240, .inl (upd w_t_boxes (x2 + x3).toNatClampNeg (vp_nar .boolean (0 : Int32))))), (q_t_isThere, .inl (cZ, 4, .inl t_isThere)), (q_t_sizes, .inl (cI, 4, .inl t_sizes)), (q_t_items, .inl (cI, 400, .inl t_items))]) S hK hw 1 1 b15 dX7_load_94 rfl rfl rfl (fun H locs hw => ?_)
          refine lv_iinc (v := (x3 + (1 : Int32))) (lv' := [(3, .int (x3 + (1 : Int32))), (0, .ref q_t), (1, .int x1), (2, .int x2)]) hx hb dX7_load_95 hl (k := 3) rfl rfl (by decide) rfl (fun ls hl => ?_)
          refine lv_goto (tgt := 58) hx hb dX7_load_98 (by decide) ?_
          exact ih (x3 + (1 : Int32)) (upd w_t_boxes (x2 + x3).toNatClampNeg (vp_nar .boolean (0 : Int32))) _ _ _ hw (lv_sub hl [1, 2, 3, 0] rfl) hf
        · have hf := (if_neg c14).symm.trans hf
          refine lv_iconst (v := (1 : Int32)) hx hb dX7_load_89 (by decide) ?_
          refine lv_goto (tgt := 94) hx hb dX7_load_90 (by decide) ?_
          obtain ⟨b16, hf⟩ := ck_some hf
          refine g_zast (ws' := [(q_t, .inr (7, [.ref q_t_boxes, .ref q_t_next, .int t_done, .ref q_t_left, .ref q_t_pairs, .int t_many, .ref q_t_lengths, .ref q_t_riggings, .int t_told, .ref q_t_toldLength, .ref q_t_toldRigging, .ref q_t_toldRoom, .int t_ringN, .ref q_t_ring, .ref q_t_was, .ref q_t_saved, .ref q_t_isThere, .ref q_t_forms, .ref q_t_sizes, .ref q_t_items, .ref q_t_moved, .int w_t_finding])), (q_t_boxes, .inl (cZ, 240, .inl (upd w_t_boxes (x2 + x3).toNatClampNeg (vp_nar .boolean (1 : Int32))))), (q_t_isThere, .inl (cZ, 4, .inl t_isThere)), (q_t_sizes, .inl (cI, 4, .inl t_sizes)), (q_t_items, .inl (cI, 400, .inl t_items))]) S hK hw 1 1 b16 dX7_load_94 rfl rfl rfl (fun H locs hw => ?_)
          refine lv_iinc (v := (x3 + (1 : Int32))) (lv' := [(3, .int (x3 + (1 : Int32))), (0, .ref q_t), (1, .int x1), (2, .int x2)]) hx hb dX7_load_95 hl (k := 3) rfl rfl (by decide) rfl (fun ls hl => ?_)
          refine lv_goto (tgt := 58) hx hb dX7_load_98 (by decide) ?_
          exact ih (x3 + (1 : Int32)) (upd w_t_boxes (x2 + x3).toNatClampNeg (vp_nar .boolean (1 : Int32))) _ _ _ hw (lv_sub hl [1, 2, 3, 0] rfl) hf
  unfold f_X7_load at hf
  refine lv_iload_n hx hb dX7_load_0 rfl (lv_at hl 1 rfl) ?_
  obtain ⟨r1, h2, hf⟩ := bd1_some hf
  refine cl_i (wr := [(q_t, .inr (7, [.ref q_t_boxes, .ref q_t_next, .int t_done, .ref q_t_left, .ref q_t_pairs, .int t_many, .ref q_t_lengths, .ref q_t_riggings, .int t_told, .ref q_t_toldLength, .ref q_t_toldRigging, .ref q_t_toldRoom, .int t_ringN, .ref q_t_ring, .ref q_t_was, .ref q_t_saved, .ref q_t_isThere, .ref q_t_forms, .ref q_t_sizes, .ref q_t_items, .ref q_t_moved, .int t_finding])), (q_t_boxes, .inl (cZ, 240, .inl t_boxes)), (q_t_isThere, .inl (cZ, 4, .inl t_isThere)), (q_t_sizes, .inl (cI, 4, .inl t_sizes)), (q_t_items, .inl (cI, 400, .inl t_items))]) (ws' := [(q_t, .inr (7, [.ref q_t_boxes, .ref q_t_next, .int t_done, .ref q_t_left, .ref q_t_pairs, .int t_many, .ref q_t_lengths, .ref q_t_riggings, .int t_told, .ref q_t_toldLength, .ref q_t_toldRigging, .ref q_t_toldRoom, .int t_ringN, .ref q_t_ring, .ref q_t_was, .ref q_t_saved, .ref q_t_isThere, .ref q_t_forms, .ref q_t_sizes, .ref q_t_items, .ref q_t_moved, .int t_finding])), (q_t_boxes, .inl (cZ, 240, .inl t_boxes)), (q_t_isThere, .inl (cZ, 4, .inl t_isThere)), (q_t_sizes, .inl (cI, 4, .inl t_sizes)), (q_t_items, .inl (cI, 400, .inl t_items))]) hA hw [] [0, 1, 2, 3, 4] [0, 1, 2, 3, 4] rfl rfl rfl (by decide) rfl rfl (va_runS (As := [.int p1]) (rest := []) S (c_X7_isSheet l D cI cZ cJ cO _ N p1 r1 h2) (va_cwS 1 hts gX7_load_X7_isSheet rfl rfl rfl (by decide +kernel) ⟨Nat.le_of_ble_eq_true rfl, Nat.le_of_ble_eq_true rfl⟩) (pre_S hK hN hw [] rfl rfl) rfl rfl hl.1 rfl (lv_room (Nat.le_of_ble_eq_true rfl)) dX7_load_1 ⟨Nat.zero_le _, Nat.zero_le _⟩) (fun H locs hw => ?_)
  refine lv_if_eq (tgt := 18) hx hb dX7_load_4 (by decide) (fun c3 => ?_) (fun c3 => ?_)
  · have hf := (if_pos c3).symm.trans hf
    refine lv_bipush (v := (-2 : Int32)) hx hb dX7_load_18 (by decide) ?_
    obtain ⟨rfl, rfl, rfl⟩ := pr3 (Option.some.inj hf)
    exact rt_i S hr hlk hw dX7_load_20
  · have hf := (if_neg c3).symm.trans hf
    refine lv_iload_n hx hb dX7_load_7 rfl (lv_at hl 2 rfl) ?_
    refine lv_iconst (v := (0 : Int32)) hx hb dX7_load_8 (by decide) ?_
    refine lv_sipush (v := (239 : Int32)) hx hb dX7_load_9 (by decide) ?_
    obtain ⟨r4, h5, hf⟩ := bd1_some hf
    refine cl_i (wr := [(q_t, .inr (7, [.ref q_t_boxes, .ref q_t_next, .int t_done, .ref q_t_left, .ref q_t_pairs, .int t_many, .ref q_t_lengths, .ref q_t_riggings, .int t_told, .ref q_t_toldLength, .ref q_t_toldRigging, .ref q_t_toldRoom, .int t_ringN, .ref q_t_ring, .ref q_t_was, .ref q_t_saved, .ref q_t_isThere, .ref q_t_forms, .ref q_t_sizes, .ref q_t_items, .ref q_t_moved, .int t_finding])), (q_t_boxes, .inl (cZ, 240, .inl t_boxes)), (q_t_isThere, .inl (cZ, 4, .inl t_isThere)), (q_t_sizes, .inl (cI, 4, .inl t_sizes)), (q_t_items, .inl (cI, 400, .inl t_items))]) (ws' := [(q_t, .inr (7, [.ref q_t_boxes, .ref q_t_next, .int t_done, .ref q_t_left, .ref q_t_pairs, .int t_many, .ref q_t_lengths, .ref q_t_riggings, .int t_told, .ref q_t_toldLength, .ref q_t_toldRigging, .ref q_t_toldRoom, .int t_ringN, .ref q_t_ring, .ref q_t_was, .ref q_t_saved, .ref q_t_isThere, .ref q_t_forms, .ref q_t_sizes, .ref q_t_items, .ref q_t_moved, .int t_finding])), (q_t_boxes, .inl (cZ, 240, .inl t_boxes)), (q_t_isThere, .inl (cZ, 4, .inl t_isThere)), (q_t_sizes, .inl (cI, 4, .inl t_sizes)), (q_t_items, .inl (cI, 400, .inl t_items))]) hA hw [] [0, 1, 2, 3, 4] [0, 1, 2, 3, 4] rfl rfl rfl (by decide) rfl rfl (va_runS (As := [.int p2, .int (0 : Int32), .int (239 : Int32)]) (rest := []) S (c_X7_in l D cI cZ cJ cO _ N p2 (0 : Int32) (239 : Int32) r4 h5) (va_cwS 3 hts gX7_load_X7_in rfl rfl rfl (by decide +kernel) ⟨Nat.le_of_ble_eq_true rfl, Nat.le_of_ble_eq_true rfl⟩) (pre_S hK hN hw [] rfl rfl) rfl rfl hl.1 rfl (lv_room (Nat.le_of_ble_eq_true rfl)) dX7_load_12 ⟨Nat.zero_le _, Nat.zero_le _⟩) (fun H locs hw => ?_)
    refine lv_if_ne (tgt := 21) hx hb dX7_load_15 (by decide) (fun c6 => ?_) (fun c6 => ?_)
    · have hf := (if_neg c6).symm.trans hf
      refine lv_aload_n hx hb dX7_load_21 rfl (lv_at hl 0 rfl) ?_
      refine g_get (ci := 7) (C := RX7) (T := TX7) (N := 22) S hinX7 hK hw 0 16 k51 dX7_load_22 rfl rfl (by decide) rfl ?_
      refine lv_iload_n hx hb dX7_load_25 rfl (lv_at hl 1 rfl) ?_
      obtain ⟨b7, hf⟩ := ck_some hf
      refine g_zald S hK hw 2 1 b7 dX7_load_26 rfl rfl ?_
      refine lv_if_ne (tgt := 36) hx hb dX7_load_27 (by decide) (fun c8 => ?_) (fun c8 => ?_)
      · have hf := (if_neg c8).symm.trans hf
        refine lv_iload_n hx hb dX7_load_36 rfl (lv_at hl 2 rfl) ?_
        refine lv_aload_n hx hb dX7_load_37 rfl (lv_at hl 0 rfl) ?_
        refine g_get (ci := 7) (C := RX7) (T := TX7) (N := 22) S hinX7 hK hw 0 18 k57 dX7_load_38 rfl rfl (by decide) rfl ?_
        refine lv_iload_n hx hb dX7_load_41 rfl (lv_at hl 1 rfl) ?_
        obtain ⟨b9, hf⟩ := ck_some hf
        refine g_iald S hK hw 3 0 b9 dX7_load_42 rfl rfl ?_
        refine lv_iadd hx hb dX7_load_43 ?_
        refine lv_sipush (v := (240 : Int32)) hx hb dX7_load_44 (by decide) ?_
        refine lv_icmp_le (tgt := 56) hx hb dX7_load_47 (by decide) (fun c10 => ?_) (fun c10 => ?_)
        · have hf := (if_pos c10).symm.trans hf
          refine lv_iconst (v := (0 : Int32)) hx hb dX7_load_56 (by decide) ?_
          refine lv_istore_n (lv' := [(3, .int (0 : Int32)), (0, .ref q_t), (1, .int p1), (2, .int p2)]) hx hb dX7_load_57 rfl hl (by decide) rfl (fun ls hl => ?_)
          refine Lp58 p1 p2 t_finding _ (fun u17 H locs ls hw hl hf => ?_) N (0 : Int32) t_boxes _ _ _ hw (lv_sub hl [1, 2, 3, 0] rfl) hf
          refine lv_aload_n hx hb dX7_load_101 rfl (lv_at hl 0 rfl) ?_
          refine g_get (ci := 7) (C := RX7) (T := TX7) (N := 22) S hinX7 hK hw 0 18 k57 dX7_load_102 rfl rfl (by decide) rfl ?_
          refine lv_iload_n hx hb dX7_load_105 rfl (lv_at hl 1 rfl) ?_
          obtain ⟨b18, hf⟩ := ck_some hf
          refine g_iald S hK hw 3 0 b18 dX7_load_106 rfl rfl ?_
          obtain ⟨rfl, rfl, rfl⟩ := pr3 (Option.some.inj hf)
          exact rt_i S hr hlk hw dX7_load_107
        · have hf := (if_neg c10).symm.trans hf
          refine lv_aload_n hx hb dX7_load_50 rfl (lv_at hl 0 rfl) ?_
          refine lv_iconst (v := (2 : Int32)) hx hb dX7_load_51 (by decide) ?_
          obtain ⟨r19, u20, h21, hf⟩ := bd2_some hf
          refine cl_i (wr := [(q_t_boxes, .inl (cZ, 240, .inl t_boxes)), (q_t_isThere, .inl (cZ, 4, .inl t_isThere)), (q_t_sizes, .inl (cI, 4, .inl t_sizes)), (q_t_items, .inl (cI, 400, .inl t_items))]) (ws' := [(q_t, .inr (7, [.ref q_t_boxes, .ref q_t_next, .int t_done, .ref q_t_left, .ref q_t_pairs, .int t_many, .ref q_t_lengths, .ref q_t_riggings, .int t_told, .ref q_t_toldLength, .ref q_t_toldRigging, .ref q_t_toldRoom, .int t_ringN, .ref q_t_ring, .ref q_t_was, .ref q_t_saved, .ref q_t_isThere, .ref q_t_forms, .ref q_t_sizes, .ref q_t_items, .ref q_t_moved, .int u20])), (q_t_boxes, .inl (cZ, 240, .inl t_boxes)), (q_t_isThere, .inl (cZ, 4, .inl t_isThere)), (q_t_sizes, .inl (cI, 4, .inl t_sizes)), (q_t_items, .inl (cI, 400, .inl t_items))]) hA hw [0] [1, 2, 3, 4] [4, 0, 1, 2, 3] rfl rfl rfl (by decide) rfl rfl (va_runV (As := [.int (2 : Int32)]) (rest := []) S (c_X7_meets l D cI cZ cJ cO _ q_t q_t_boxes q_t_next q_t_left q_t_pairs q_t_lengths q_t_riggings q_t_toldLength q_t_toldRigging q_t_toldRoom q_t_ring q_t_was q_t_saved q_t_isThere q_t_forms q_t_sizes q_t_items q_t_moved N (2 : Int32) t_done t_many t_told t_ringN t_finding r19 u20 h21) (cwV 1 hts gX7_load_X7_meets rfl rfl rfl (by decide +kernel) ⟨Nat.le_of_ble_eq_true rfl, Nat.le_of_ble_eq_true rfl⟩) (pre_V hK hN hw [0] rfl rfl (C := RX7) (T := TX7) (N := 22) (ci := 7) (q0 := 0) rfl rfl) rfl rfl hl.1 rfl (lv_room (Nat.le_of_ble_eq_true rfl)) dX7_load_52 ⟨Nat.zero_le _, Nat.zero_le _⟩) (fun H locs hw => ?_)
          obtain ⟨rfl, rfl, rfl⟩ := pr3 (Option.some.inj hf)
          exact rt_i S hr hlk hw dX7_load_55
      · have hf := (if_pos c8).symm.trans hf
        refine lv_aload_n hx hb dX7_load_30 rfl (lv_at hl 0 rfl) ?_
        refine lv_iconst (v := (1 : Int32)) hx hb dX7_load_31 (by decide) ?_
        obtain ⟨r22, u23, h24, hf⟩ := bd2_some hf
        refine cl_i (wr := [(q_t_boxes, .inl (cZ, 240, .inl t_boxes)), (q_t_isThere, .inl (cZ, 4, .inl t_isThere)), (q_t_sizes, .inl (cI, 4, .inl t_sizes)), (q_t_items, .inl (cI, 400, .inl t_items))]) (ws' := [(q_t, .inr (7, [.ref q_t_boxes, .ref q_t_next, .int t_done, .ref q_t_left, .ref q_t_pairs, .int t_many, .ref q_t_lengths, .ref q_t_riggings, .int t_told, .ref q_t_toldLength, .ref q_t_toldRigging, .ref q_t_toldRoom, .int t_ringN, .ref q_t_ring, .ref q_t_was, .ref q_t_saved, .ref q_t_isThere, .ref q_t_forms, .ref q_t_sizes, .ref q_t_items, .ref q_t_moved, .int u23])), (q_t_boxes, .inl (cZ, 240, .inl t_boxes)), (q_t_isThere, .inl (cZ, 4, .inl t_isThere)), (q_t_sizes, .inl (cI, 4, .inl t_sizes)), (q_t_items, .inl (cI, 400, .inl t_items))]) hA hw [0] [1, 2, 3, 4] [4, 0, 1, 2, 3] rfl rfl rfl (by decide) rfl rfl (va_runV (As := [.int (1 : Int32)]) (rest := []) S (c_X7_meets l D cI cZ cJ cO _ q_t q_t_boxes q_t_next q_t_left q_t_pairs q_t_lengths q_t_riggings q_t_toldLength q_t_toldRigging q_t_toldRoom q_t_ring q_t_was q_t_saved q_t_isThere q_t_forms q_t_sizes q_t_items q_t_moved N (1 : Int32) t_done t_many t_told t_ringN t_finding r22 u23 h24) (cwV 1 hts gX7_load_X7_meets rfl rfl rfl (by decide +kernel) ⟨Nat.le_of_ble_eq_true rfl, Nat.le_of_ble_eq_true rfl⟩) (pre_V hK hN hw [0] rfl rfl (C := RX7) (T := TX7) (N := 22) (ci := 7) (q0 := 0) rfl rfl) rfl rfl hl.1 rfl (lv_room (Nat.le_of_ble_eq_true rfl)) dX7_load_32 ⟨Nat.zero_le _, Nat.zero_le _⟩) (fun H locs hw => ?_)
        obtain ⟨rfl, rfl, rfl⟩ := pr3 (Option.some.inj hf)
        exact rt_i S hr hlk hw dX7_load_35
    · have hf := (if_pos c6).symm.trans hf
      refine lv_bipush (v := (-2 : Int32)) hx hb dX7_load_18 (by decide) ?_
      obtain ⟨rfl, rfl, rfl⟩ := pr3 (Option.some.inj hf)
      exact rt_i S hr hlk hw dX7_load_20

def L_X7_write_68 (N : Nat) (x1 : Int32) (x2 : Int32) (x3 : Int32) (t_boxes : (Nat → Int32)) (K : (Nat → Int32) → Option (Int32 × Int32 × (Nat → Int32))) : Nat → Int32 → (Nat → Int32) → Option (Int32 × Int32 × (Nat → Int32))
  | 0, _, _ => none
  | n + 1, x4, w_t_items => (if x3 ≤ x4 then (K w_t_items) else (ck (inb (x2 + x4) 240) (if (t_boxes (x2 + x4).toNatClampNeg) = (0 : Int32) then (ck (inb (((100 : Int32) * x1) + x4) 400) (L_X7_write_68 N x1 x2 x3 t_boxes K n (x4 + (1 : Int32)) (upd w_t_items (((100 : Int32) * x1) + x4).toNatClampNeg (0 : Int32)))) else (ck (inb (((100 : Int32) * x1) + x4) 400) (L_X7_write_68 N x1 x2 x3 t_boxes K n (x4 + (1 : Int32)) (upd w_t_items (((100 : Int32) * x1) + x4).toNatClampNeg (1 : Int32)))))))

def f_X7_write (N : Nat) (p1 : Int32) (p2 : Int32) (t_finding : Int32) (t_boxes : (Nat → Int32)) (t_isThere : (Nat → Int32)) (t_sizes : (Nat → Int32)) (t_items : (Nat → Int32)) : Option (Int32 × Int32 × (Nat → Int32)) :=
  (bd1 (f_X7_isSheet N p1) (fun r1 => (if r1 = (0 : Int32) then (some ((-2 : Int32), t_finding, t_items)) else (bd1 (f_X7_in N p2 (0 : Int32) (239 : Int32)) (fun r4 => (if r4 = (0 : Int32) then (some ((-2 : Int32), t_finding, t_items)) else (ck (inb p1 4) (if (t_isThere p1.toNatClampNeg) = (0 : Int32) then (bd2 (f_X7_meets N (1 : Int32) t_finding) (fun r19 u20 => (some (r19, u20, t_items)))) else (ck (inb p1 4) (if ((240 : Int32) - p2) ≤ (t_sizes p1.toNatClampNeg) then (L_X7_write_68 N p1 p2 ((240 : Int32) - p2) t_boxes (fun u16 => (some (((240 : Int32) - p2), t_finding, u16))) N (0 : Int32) t_items) else (ck (inb p1 4) (L_X7_write_68 N p1 p2 (t_sizes p1.toNatClampNeg) t_boxes (fun u18 => (some ((t_sizes p1.toNatClampNeg), t_finding, u18))) N (0 : Int32) t_items))))))))))))

set_option maxHeartbeats 4000000 in
set_option maxRecDepth 100000 in
theorem c_X7_write (l : Launch) (D : va_G) (cI cZ cJ cO : ClassId) (sz : Nat) (q_t q_t_boxes q_t_next q_t_left q_t_pairs q_t_lengths q_t_riggings q_t_toldLength q_t_toldRigging q_t_toldRoom q_t_ring q_t_was q_t_saved q_t_isThere q_t_forms q_t_sizes q_t_items q_t_moved : Nat) (N : Nat) (p1 : Int32) (p2 : Int32) (t_done : Int32) (t_many : Int32) (t_told : Int32) (t_ringN : Int32) (t_finding : Int32) (t_boxes : (Nat → Int32)) (t_isThere : (Nat → Int32)) (t_sizes : (Nat → Int32)) (t_items : (Nat → Int32)) (r : Int32) (o_t_finding : Int32) (o_t_items : (Nat → Int32)) (hf : f_X7_write N p1 p2 t_finding t_boxes t_isThere t_sizes t_items = some (r, o_t_finding, o_t_items)) : Met l yX7_write wsX7_write ({ frames := 2, cells := 0, slots := 0, locals := 42 }) (PreC D (TY cI cZ cJ cO) [.ref q_t, .int p1, .int p2] [(q_t, .inr (7, [.ref q_t_boxes, .ref q_t_next, .int t_done, .ref q_t_left, .ref q_t_pairs, .int t_many, .ref q_t_lengths, .ref q_t_riggings, .int t_told, .ref q_t_toldLength, .ref q_t_toldRigging, .ref q_t_toldRoom, .int t_ringN, .ref q_t_ring, .ref q_t_was, .ref q_t_saved, .ref q_t_isThere, .ref q_t_forms, .ref q_t_sizes, .ref q_t_items, .ref q_t_moved, .int t_finding])), (q_t_boxes, .inl (cZ, 240, .inl t_boxes)), (q_t_isThere, .inl (cZ, 4, .inl t_isThere)), (q_t_sizes, .inl (cI, 4, .inl t_sizes)), (q_t_items, .inl (cI, 400, .inl t_items))] sz) (QcI D [(q_t, .inr (7, [.ref q_t_boxes, .ref q_t_next, .int t_done, .ref q_t_left, .ref q_t_pairs, .int t_many, .ref q_t_lengths, .ref q_t_riggings, .int t_told, .ref q_t_toldLength, .ref q_t_toldRigging, .ref q_t_toldRoom, .int t_ringN, .ref q_t_ring, .ref q_t_was, .ref q_t_saved, .ref q_t_isThere, .ref q_t_forms, .ref q_t_sizes, .ref q_t_items, .ref q_t_moved, .int o_t_finding])), (q_t_boxes, .inl (cZ, 240, .inl t_boxes)), (q_t_isThere, .inl (cZ, 4, .inl t_isThere)), (q_t_sizes, .inl (cI, 4, .inl t_sizes)), (q_t_items, .inl (cI, 400, .inl o_t_items))] (va_A [(q_t, .inr (7, [.ref q_t_boxes, .ref q_t_next, .int t_done, .ref q_t_left, .ref q_t_pairs, .int t_many, .ref q_t_lengths, .ref q_t_riggings, .int t_told, .ref q_t_toldLength, .ref q_t_toldRigging, .ref q_t_toldRoom, .int t_ringN, .ref q_t_ring, .ref q_t_was, .ref q_t_saved, .ref q_t_isThere, .ref q_t_forms, .ref q_t_sizes, .ref q_t_items, .ref q_t_moved, .int t_finding])), (q_t_boxes, .inl (cZ, 240, .inl t_boxes)), (q_t_isThere, .inl (cZ, 4, .inl t_isThere)), (q_t_sizes, .inl (cI, 4, .inl t_sizes)), (q_t_items, .inl (cI, 400, .inl t_items))] sz) r) 0 0 (va_A [(q_t, .inr (7, [.ref q_t_boxes, .ref q_t_next, .int t_done, .ref q_t_left, .ref q_t_pairs, .int t_many, .ref q_t_lengths, .ref q_t_riggings, .int t_told, .ref q_t_toldLength, .ref q_t_toldRigging, .ref q_t_toldRoom, .int t_ringN, .ref q_t_ring, .ref q_t_was, .ref q_t_saved, .ref q_t_isThere, .ref q_t_forms, .ref q_t_sizes, .ref q_t_items, .ref q_t_moved, .int t_finding])), (q_t_boxes, .inl (cZ, 240, .inl t_boxes)), (q_t_isThere, .inl (cZ, 4, .inl t_isThere)), (q_t_sizes, .inl (cI, 4, .inl t_sizes)), (q_t_items, .inl (cI, 400, .inl t_items))] sz) := by
  refine ctr (cc := cX7_write) (maxL := 5) (ret := (some .int)) (by decide) rfl (Nat.le_of_ble_eq_true rfl) ?_
  intro p e s m below meth c S hr hlk hnm hK hN hsz hA hw ls hl
  generalize va_A [(q_t, .inr (7, [.ref q_t_boxes, .ref q_t_next, .int t_done, .ref q_t_left, .ref q_t_pairs, .int t_many, .ref q_t_lengths, .ref q_t_riggings, .int t_told, .ref q_t_toldLength, .ref q_t_toldRigging, .ref q_t_toldRoom, .int t_ringN, .ref q_t_ring, .ref q_t_was, .ref q_t_saved, .ref q_t_isThere, .ref q_t_forms, .ref q_t_sizes, .ref q_t_items, .ref q_t_moved, .int t_finding])), (q_t_boxes, .inl (cZ, 240, .inl t_boxes)), (q_t_isThere, .inl (cZ, 4, .inl t_isThere)), (q_t_sizes, .inl (cI, 4, .inl t_sizes)), (q_t_items, .inl (cI, 400, .inl t_items))] sz = A at hA hw ⊢
  have S : CallFix p m c cX7_write 5 s ([.ref q_t, .int p1, .int p2] : List Value).toArray wsX7_write RX7 := S
  have hx := S.1
  have hb := S.2.1
  have hts := S.2.2.2.2
  have hl : lv_has ls 5 [(0, .ref q_t), (1, .int p1), (2, .int p2)] := hl
  have hinX7 : ∀ w ∈ u_ws RX7 TX7 22, w ∈ wsX7_write := by decide +kernel
  have k7 : Cond.fieldLink RX7 7 "BallBoxesModel" "boxes" "[Z" ∈ wsX7_write := by decide +kernel
  have k51 : Cond.fieldLink RX7 51 "BallBoxesModel" "isThere" "[Z" ∈ wsX7_write := by decide +kernel
  have k57 : Cond.fieldLink RX7 57 "BallBoxesModel" "sizes" "[I" ∈ wsX7_write := by decide +kernel
  have k60 : Cond.fieldLink RX7 60 "BallBoxesModel" "items" "[I" ∈ wsX7_write := by decide +kernel
  have Lp68 : ∀ (x1 : Int32) (x2 : Int32) (x3 : Int32) (w_t_finding : Int32) (K : (Nat → Int32) → Option (Int32 × Int32 × (Nat → Int32))), (∀ (z_t_items : (Nat → Int32)) (H : Heap) (locs : List Loc) (ls : Array Slot), Wd D A s.heap [(q_t, .inr (7, [.ref q_t_boxes, .ref q_t_next, .int t_done, .ref q_t_left, .ref q_t_pairs, .int t_many, .ref q_t_lengths, .ref q_t_riggings, .int t_told, .ref q_t_toldLength, .ref q_t_toldRigging, .ref q_t_toldRoom, .int t_ringN, .ref q_t_ring, .ref q_t_was, .ref q_t_saved, .ref q_t_isThere, .ref q_t_forms, .ref q_t_sizes, .ref q_t_items, .ref q_t_moved, .int w_t_finding])), (q_t_boxes, .inl (cZ, 240, .inl t_boxes)), (q_t_isThere, .inl (cZ, 4, .inl t_isThere)), (q_t_sizes, .inl (cI, 4, .inl t_sizes)), (q_t_items, .inl (cI, 400, .inl z_t_items))] H locs → lv_has ls 5 [(3, .int x3)] → K z_t_items = some (r, o_t_finding, o_t_items) → W p l e ({ frames := 2, cells := 0, slots := 0, locals := 42 } : Room) s m ([.ref q_t, .int p1, .int p2] : List Value).toArray below meth c H locs 0 0 (MQ below (QcI D [(q_t, .inr (7, [.ref q_t_boxes, .ref q_t_next, .int t_done, .ref q_t_left, .ref q_t_pairs, .int t_many, .ref q_t_lengths, .ref q_t_riggings, .int t_told, .ref q_t_toldLength, .ref q_t_toldRigging, .ref q_t_toldRoom, .int t_ringN, .ref q_t_ring, .ref q_t_was, .ref q_t_saved, .ref q_t_isThere, .ref q_t_forms, .ref q_t_sizes, .ref q_t_items, .ref q_t_moved, .int o_t_finding])), (q_t_boxes, .inl (cZ, 240, .inl t_boxes)), (q_t_isThere, .inl (cZ, 4, .inl t_isThere)), (q_t_sizes, .inl (cI, 4, .inl t_sizes)), (q_t_items, .inl (cI, 400, .inl o_t_items))] A r) ([.ref q_t, .int p1, .int p2] : List Value).toArray s 0 0 A) (F0 m 109 ls [])) → ∀ (n : Nat) (x4 : Int32) (w_t_items : (Nat → Int32)) (H : Heap) (locs : List Loc) (ls : Array Slot), Wd D A s.heap [(q_t, .inr (7, [.ref q_t_boxes, .ref q_t_next, .int t_done, .ref q_t_left, .ref q_t_pairs, .int t_many, .ref q_t_lengths, .ref q_t_riggings, .int t_told, .ref q_t_toldLength, .ref q_t_toldRigging, .ref q_t_toldRoom, .int t_ringN, .ref q_t_ring, .ref q_t_was, .ref q_t_saved, .ref q_t_isThere, .ref q_t_forms, .ref q_t_sizes, .ref q_t_items, .ref q_t_moved, .int w_t_finding])), (q_t_boxes, .inl (cZ, 240, .inl t_boxes)), (q_t_isThere, .inl (cZ, 4, .inl t_isThere)), (q_t_sizes, .inl (cI, 4, .inl t_sizes)), (q_t_items, .inl (cI, 400, .inl w_t_items))] H locs → lv_has ls 5 [(0, .ref q_t), (1, .int x1), (2, .int x2), (3, .int x3), (4, .int x4)] → L_X7_write_68 N x1 x2 x3 t_boxes K n x4 w_t_items = some (r, o_t_finding, o_t_items) → W p l e ({ frames := 2, cells := 0, slots := 0, locals := 42 } : Room) s m ([.ref q_t, .int p1, .int p2] : List Value).toArray below meth c H locs 0 0 (MQ below (QcI D [(q_t, .inr (7, [.ref q_t_boxes, .ref q_t_next, .int t_done, .ref q_t_left, .ref q_t_pairs, .int t_many, .ref q_t_lengths, .ref q_t_riggings, .int t_told, .ref q_t_toldLength, .ref q_t_toldRigging, .ref q_t_toldRoom, .int t_ringN, .ref q_t_ring, .ref q_t_was, .ref q_t_saved, .ref q_t_isThere, .ref q_t_forms, .ref q_t_sizes, .ref q_t_items, .ref q_t_moved, .int o_t_finding])), (q_t_boxes, .inl (cZ, 240, .inl t_boxes)), (q_t_isThere, .inl (cZ, 4, .inl t_isThere)), (q_t_sizes, .inl (cI, 4, .inl t_sizes)), (q_t_items, .inl (cI, 400, .inl o_t_items))] A r) ([.ref q_t, .int p1, .int p2] : List Value).toArray s 0 0 A) (F0 m 68 ls []) := by
    intro x1 x2 x3 w_t_finding K hKx n
    induction n with
    | zero =>
      intro x4 w_t_items H locs ls hw hl hf
      rw [L_X7_write_68] at hf
      cases hf
    | succ n ih =>
      intro x4 w_t_items H locs ls hw hl hf
      rw [L_X7_write_68] at hf
      refine lv_iload hx hb dX7_write_68 (lv_at hl 4 rfl) ?_
      refine lv_iload_n hx hb dX7_write_70 rfl (lv_at hl 3 rfl) ?_
      refine lv_icmp_ge (tgt := 109) hx hb dX7_write_71 (by decide) (fun c11 => ?_) (fun c11 => ?_)
      · have hf := (if_pos c11).symm.trans hf
        exact hKx w_t_items _ _ _ hw (lv_sub hl [3] rfl) hf
      · have hf := (if_neg c11).symm.trans hf
        refine lv_aload_n hx hb dX7_write_74 rfl (lv_at hl 0 rfl) ?_
        refine g_get (ci := 7) (C := RX7) (T := TX7) (N := 22) S hinX7 hK hw 0 19 k60 dX7_write_75 rfl rfl (by decide) rfl ?_
        refine lv_bipush (v := (100 : Int32)) hx hb dX7_write_78 (by decide) ?_
        refine lv_iload_n hx hb dX7_write_80 rfl (lv_at hl 1 rfl) ?_
        refine lv_imul hx hb dX7_write_81 ?_
        refine lv_iload hx hb dX7_write_82 (lv_at hl 4 rfl) ?_
        refine lv_iadd hx hb dX7_write_84 ?_
        refine lv_aload_n hx hb dX7_write_85 rfl (lv_at hl 0 rfl) ?_
        refine g_get (ci := 7) (C := RX7) (T := TX7) (N := 22) S hinX7 hK hw 0 0 k7 dX7_write_86 rfl rfl (by decide) rfl ?_
        refine lv_iload_n hx hb dX7_write_89 rfl (lv_at hl 2 rfl) ?_
        refine lv_iload hx hb dX7_write_90 (lv_at hl 4 rfl) ?_
        refine lv_iadd hx hb dX7_write_92 ?_
        obtain ⟨b12, hf⟩ := ck_some hf
        refine g_zald S hK hw 1 1 b12 dX7_write_93 rfl rfl ?_
        refine lv_if_eq (tgt := 101) hx hb dX7_write_94 (by decide) (fun c13 => ?_) (fun c13 => ?_)
        · have hf := (if_pos c13).symm.trans hf
          refine lv_iconst (v := (0 : Int32)) hx hb dX7_write_101 (by decide) ?_
          obtain ⟨b14, hf⟩ := ck_some hf
          refine g_iast (ws' := [(q_t, .inr (7, [.ref q_t_boxes, .ref q_t_next, .int t_done, .ref q_t_left, .ref q_t_pairs, .int t_many, .ref q_t_lengths, .ref q_t_riggings, .int t_told, .ref q_t_toldLength, .ref q_t_toldRigging, .ref q_t_toldRoom, .int t_ringN, .ref q_t_ring, .ref q_t_was, .ref q_t_saved, .ref q_t_isThere, .ref q_t_forms, .ref q_t_sizes, .ref q_t_items, .ref q_t_moved, .int w_t_finding])), (q_t_boxes, .inl (cZ, 240, .inl t_boxes)), (q_t_isThere, .inl (cZ, 4, .inl t_isThere)), (q_t_sizes, .inl (cI, 4, .inl t_sizes)), (q_t_items, .inl (cI, 400, .inl (upd w_t_items (((100 : Int32) * x1) + x4).toNatClampNeg (0 : Int32))))]) S hK hw 4 0 b14 dX7_write_102 rfl rfl rfl (fun H locs hw => ?_)
          refine lv_iinc (v := (x4 + (1 : Int32))) (lv' := [(4, .int (x4 + (1 : Int32))), (0, .ref q_t), (1, .int x1), (2, .int x2), (3, .int x3)]) hx hb dX7_write_103 hl (k := 4) rfl rfl (by decide) rfl (fun ls hl => ?_)
          refine lv_goto (tgt := 68) hx hb dX7_write_106 (by decide) ?_
          exact ih (x4 + (1 : Int32)) (upd w_t_items (((100 : Int32) * x1) + x4).toNatClampNeg (0 : Int32)) _ _ _ hw (lv_sub hl [1, 2, 3, 4, 0] rfl) hf
        · have hf := (if_neg c13).symm.trans hf
          refine lv_iconst (v := (1 : Int32)) hx hb dX7_write_97 (by decide) ?_
          refine lv_goto (tgt := 102) hx hb dX7_write_98 (by decide) ?_
          obtain ⟨b15, hf⟩ := ck_some hf
          refine g_iast (ws' := [(q_t, .inr (7, [.ref q_t_boxes, .ref q_t_next, .int t_done, .ref q_t_left, .ref q_t_pairs, .int t_many, .ref q_t_lengths, .ref q_t_riggings, .int t_told, .ref q_t_toldLength, .ref q_t_toldRigging, .ref q_t_toldRoom, .int t_ringN, .ref q_t_ring, .ref q_t_was, .ref q_t_saved, .ref q_t_isThere, .ref q_t_forms, .ref q_t_sizes, .ref q_t_items, .ref q_t_moved, .int w_t_finding])), (q_t_boxes, .inl (cZ, 240, .inl t_boxes)), (q_t_isThere, .inl (cZ, 4, .inl t_isThere)), (q_t_sizes, .inl (cI, 4, .inl t_sizes)), (q_t_items, .inl (cI, 400, .inl (upd w_t_items (((100 : Int32) * x1) + x4).toNatClampNeg (1 : Int32))))]) S hK hw 4 0 b15 dX7_write_102 rfl rfl rfl (fun H locs hw => ?_)
          refine lv_iinc (v := (x4 + (1 : Int32))) (lv' := [(4, .int (x4 + (1 : Int32))), (0, .ref q_t), (1, .int x1), (2, .int x2), (3, .int x3)]) hx hb dX7_write_103 hl (k := 4) rfl rfl (by decide) rfl (fun ls hl => ?_)
          refine lv_goto (tgt := 68) hx hb dX7_write_106 (by decide) ?_
          exact ih (x4 + (1 : Int32)) (upd w_t_items (((100 : Int32) * x1) + x4).toNatClampNeg (1 : Int32)) _ _ _ hw (lv_sub hl [1, 2, 3, 4, 0] rfl) hf
  unfold f_X7_write at hf
  refine lv_iload_n hx hb dX7_write_0 rfl (lv_at hl 1 rfl) ?_
  obtain ⟨r1, h2, hf⟩ := bd1_some hf
  refine cl_i (wr := [(q_t, .inr (7, [.ref q_t_boxes, .ref q_t_next, .int t_done, .ref q_t_left, .ref q_t_pairs, .int t_many, .ref q_t_lengths, .ref q_t_riggings, .int t_told, .ref q_t_toldLength, .ref q_t_toldRigging, .ref q_t_toldRoom, .int t_ringN, .ref q_t_ring, .ref q_t_was, .ref q_t_saved, .ref q_t_isThere, .ref q_t_forms, .ref q_t_sizes, .ref q_t_items, .ref q_t_moved, .int t_finding])), (q_t_boxes, .inl (cZ, 240, .inl t_boxes)), (q_t_isThere, .inl (cZ, 4, .inl t_isThere)), (q_t_sizes, .inl (cI, 4, .inl t_sizes)), (q_t_items, .inl (cI, 400, .inl t_items))]) (ws' := [(q_t, .inr (7, [.ref q_t_boxes, .ref q_t_next, .int t_done, .ref q_t_left, .ref q_t_pairs, .int t_many, .ref q_t_lengths, .ref q_t_riggings, .int t_told, .ref q_t_toldLength, .ref q_t_toldRigging, .ref q_t_toldRoom, .int t_ringN, .ref q_t_ring, .ref q_t_was, .ref q_t_saved, .ref q_t_isThere, .ref q_t_forms, .ref q_t_sizes, .ref q_t_items, .ref q_t_moved, .int t_finding])), (q_t_boxes, .inl (cZ, 240, .inl t_boxes)), (q_t_isThere, .inl (cZ, 4, .inl t_isThere)), (q_t_sizes, .inl (cI, 4, .inl t_sizes)), (q_t_items, .inl (cI, 400, .inl t_items))]) hA hw [] [0, 1, 2, 3, 4] [0, 1, 2, 3, 4] rfl rfl rfl (by decide) rfl rfl (va_runS (As := [.int p1]) (rest := []) S (c_X7_isSheet l D cI cZ cJ cO _ N p1 r1 h2) (va_cwS 1 hts gX7_write_X7_isSheet rfl rfl rfl (by decide +kernel) ⟨Nat.le_of_ble_eq_true rfl, Nat.le_of_ble_eq_true rfl⟩) (pre_S hK hN hw [] rfl rfl) rfl rfl hl.1 rfl (lv_room (Nat.le_of_ble_eq_true rfl)) dX7_write_1 ⟨Nat.zero_le _, Nat.zero_le _⟩) (fun H locs hw => ?_)
  refine lv_if_eq (tgt := 18) hx hb dX7_write_4 (by decide) (fun c3 => ?_) (fun c3 => ?_)
  · have hf := (if_pos c3).symm.trans hf
    refine lv_bipush (v := (-2 : Int32)) hx hb dX7_write_18 (by decide) ?_
    obtain ⟨rfl, rfl, rfl⟩ := pr3 (Option.some.inj hf)
    exact rt_i S hr hlk hw dX7_write_20
  · have hf := (if_neg c3).symm.trans hf
    refine lv_iload_n hx hb dX7_write_7 rfl (lv_at hl 2 rfl) ?_
    refine lv_iconst (v := (0 : Int32)) hx hb dX7_write_8 (by decide) ?_
    refine lv_sipush (v := (239 : Int32)) hx hb dX7_write_9 (by decide) ?_
    obtain ⟨r4, h5, hf⟩ := bd1_some hf
    refine cl_i (wr := [(q_t, .inr (7, [.ref q_t_boxes, .ref q_t_next, .int t_done, .ref q_t_left, .ref q_t_pairs, .int t_many, .ref q_t_lengths, .ref q_t_riggings, .int t_told, .ref q_t_toldLength, .ref q_t_toldRigging, .ref q_t_toldRoom, .int t_ringN, .ref q_t_ring, .ref q_t_was, .ref q_t_saved, .ref q_t_isThere, .ref q_t_forms, .ref q_t_sizes, .ref q_t_items, .ref q_t_moved, .int t_finding])), (q_t_boxes, .inl (cZ, 240, .inl t_boxes)), (q_t_isThere, .inl (cZ, 4, .inl t_isThere)), (q_t_sizes, .inl (cI, 4, .inl t_sizes)), (q_t_items, .inl (cI, 400, .inl t_items))]) (ws' := [(q_t, .inr (7, [.ref q_t_boxes, .ref q_t_next, .int t_done, .ref q_t_left, .ref q_t_pairs, .int t_many, .ref q_t_lengths, .ref q_t_riggings, .int t_told, .ref q_t_toldLength, .ref q_t_toldRigging, .ref q_t_toldRoom, .int t_ringN, .ref q_t_ring, .ref q_t_was, .ref q_t_saved, .ref q_t_isThere, .ref q_t_forms, .ref q_t_sizes, .ref q_t_items, .ref q_t_moved, .int t_finding])), (q_t_boxes, .inl (cZ, 240, .inl t_boxes)), (q_t_isThere, .inl (cZ, 4, .inl t_isThere)), (q_t_sizes, .inl (cI, 4, .inl t_sizes)), (q_t_items, .inl (cI, 400, .inl t_items))]) hA hw [] [0, 1, 2, 3, 4] [0, 1, 2, 3, 4] rfl rfl rfl (by decide) rfl rfl (va_runS (As := [.int p2, .int (0 : Int32), .int (239 : Int32)]) (rest := []) S (c_X7_in l D cI cZ cJ cO _ N p2 (0 : Int32) (239 : Int32) r4 h5) (va_cwS 3 hts gX7_write_X7_in rfl rfl rfl (by decide +kernel) ⟨Nat.le_of_ble_eq_true rfl, Nat.le_of_ble_eq_true rfl⟩) (pre_S hK hN hw [] rfl rfl) rfl rfl hl.1 rfl (lv_room (Nat.le_of_ble_eq_true rfl)) dX7_write_12 ⟨Nat.zero_le _, Nat.zero_le _⟩) (fun H locs hw => ?_)
    refine lv_if_ne (tgt := 21) hx hb dX7_write_15 (by decide) (fun c6 => ?_) (fun c6 => ?_)
    · have hf := (if_neg c6).symm.trans hf
      refine lv_aload_n hx hb dX7_write_21 rfl (lv_at hl 0 rfl) ?_
      refine g_get (ci := 7) (C := RX7) (T := TX7) (N := 22) S hinX7 hK hw 0 16 k51 dX7_write_22 rfl rfl (by decide) rfl ?_
      refine lv_iload_n hx hb dX7_write_25 rfl (lv_at hl 1 rfl) ?_
      obtain ⟨b7, hf⟩ := ck_some hf
      refine g_zald S hK hw 2 1 b7 dX7_write_26 rfl rfl ?_
      refine lv_if_ne (tgt := 36) hx hb dX7_write_27 (by decide) (fun c8 => ?_) (fun c8 => ?_)
      · have hf := (if_neg c8).symm.trans hf
        refine lv_aload_n hx hb dX7_write_36 rfl (lv_at hl 0 rfl) ?_
        refine g_get (ci := 7) (C := RX7) (T := TX7) (N := 22) S hinX7 hK hw 0 18 k57 dX7_write_37 rfl rfl (by decide) rfl ?_
        refine lv_iload_n hx hb dX7_write_40 rfl (lv_at hl 1 rfl) ?_
        obtain ⟨b9, hf⟩ := ck_some hf
        refine g_iald S hK hw 3 0 b9 dX7_write_41 rfl rfl ?_
        refine lv_sipush (v := (240 : Int32)) hx hb dX7_write_42 (by decide) ?_
        refine lv_iload_n hx hb dX7_write_45 rfl (lv_at hl 2 rfl) ?_
        refine lv_isub hx hb dX7_write_46 ?_
        refine lv_icmp_ge (tgt := 59) hx hb dX7_write_47 (by decide) (fun c10 => ?_) (fun c10 => ?_)
        · have hf := (if_pos c10).symm.trans hf
          refine lv_sipush (v := (240 : Int32)) hx hb dX7_write_59 (by decide) ?_
          refine lv_iload_n hx hb dX7_write_62 rfl (lv_at hl 2 rfl) ?_
          refine lv_isub hx hb dX7_write_63 ?_
          refine lv_istore_n (lv' := [(3, .int ((240 : Int32) - p2)), (0, .ref q_t), (1, .int p1), (2, .int p2)]) hx hb dX7_write_64 rfl hl (by decide) rfl (fun ls hl => ?_)
          refine lv_iconst (v := (0 : Int32)) hx hb dX7_write_65 (by decide) ?_
          refine lv_istore (lv' := [(4, .int (0 : Int32)), (3, .int ((240 : Int32) - p2)), (0, .ref q_t), (1, .int p1), (2, .int p2)]) hx hb dX7_write_66 hl (by decide) rfl (fun ls hl => ?_)
          refine Lp68 p1 p2 ((240 : Int32) - p2) t_finding _ (fun u16 H locs ls hw hl hf => ?_) N (0 : Int32) t_items _ _ _ hw (lv_sub hl [2, 3, 4, 1, 0] rfl) hf
          refine lv_iload_n hx hb dX7_write_109 rfl (lv_at hl 0 rfl) ?_
          obtain ⟨rfl, rfl, rfl⟩ := pr3 (Option.some.inj hf)
          exact rt_i S hr hlk hw dX7_write_110
        · have hf := (if_neg c10).symm.trans hf
          refine lv_aload_n hx hb dX7_write_50 rfl (lv_at hl 0 rfl) ?_
          refine g_get (ci := 7) (C := RX7) (T := TX7) (N := 22) S hinX7 hK hw 0 18 k57 dX7_write_51 rfl rfl (by decide) rfl ?_
          refine lv_iload_n hx hb dX7_write_54 rfl (lv_at hl 1 rfl) ?_
          obtain ⟨b17, hf⟩ := ck_some hf
          refine g_iald S hK hw 3 0 b17 dX7_write_55 rfl rfl ?_
          refine lv_goto (tgt := 64) hx hb dX7_write_56 (by decide) ?_
          refine lv_istore_n (lv' := [(3, .int (t_sizes p1.toNatClampNeg)), (0, .ref q_t), (1, .int p1), (2, .int p2)]) hx hb dX7_write_64 rfl hl (by decide) rfl (fun ls hl => ?_)
          refine lv_iconst (v := (0 : Int32)) hx hb dX7_write_65 (by decide) ?_
          refine lv_istore (lv' := [(4, .int (0 : Int32)), (3, .int (t_sizes p1.toNatClampNeg)), (0, .ref q_t), (1, .int p1), (2, .int p2)]) hx hb dX7_write_66 hl (by decide) rfl (fun ls hl => ?_)
          refine Lp68 p1 p2 (t_sizes p1.toNatClampNeg) t_finding _ (fun u18 H locs ls hw hl hf => ?_) N (0 : Int32) t_items _ _ _ hw (lv_sub hl [2, 3, 4, 1, 0] rfl) hf
          refine lv_iload_n hx hb dX7_write_109 rfl (lv_at hl 0 rfl) ?_
          obtain ⟨rfl, rfl, rfl⟩ := pr3 (Option.some.inj hf)
          exact rt_i S hr hlk hw dX7_write_110
      · have hf := (if_pos c8).symm.trans hf
        refine lv_aload_n hx hb dX7_write_30 rfl (lv_at hl 0 rfl) ?_
        refine lv_iconst (v := (1 : Int32)) hx hb dX7_write_31 (by decide) ?_
        obtain ⟨r19, u20, h21, hf⟩ := bd2_some hf
        refine cl_i (wr := [(q_t_boxes, .inl (cZ, 240, .inl t_boxes)), (q_t_isThere, .inl (cZ, 4, .inl t_isThere)), (q_t_sizes, .inl (cI, 4, .inl t_sizes)), (q_t_items, .inl (cI, 400, .inl t_items))]) (ws' := [(q_t, .inr (7, [.ref q_t_boxes, .ref q_t_next, .int t_done, .ref q_t_left, .ref q_t_pairs, .int t_many, .ref q_t_lengths, .ref q_t_riggings, .int t_told, .ref q_t_toldLength, .ref q_t_toldRigging, .ref q_t_toldRoom, .int t_ringN, .ref q_t_ring, .ref q_t_was, .ref q_t_saved, .ref q_t_isThere, .ref q_t_forms, .ref q_t_sizes, .ref q_t_items, .ref q_t_moved, .int u20])), (q_t_boxes, .inl (cZ, 240, .inl t_boxes)), (q_t_isThere, .inl (cZ, 4, .inl t_isThere)), (q_t_sizes, .inl (cI, 4, .inl t_sizes)), (q_t_items, .inl (cI, 400, .inl t_items))]) hA hw [0] [1, 2, 3, 4] [4, 0, 1, 2, 3] rfl rfl rfl (by decide) rfl rfl (va_runV (As := [.int (1 : Int32)]) (rest := []) S (c_X7_meets l D cI cZ cJ cO _ q_t q_t_boxes q_t_next q_t_left q_t_pairs q_t_lengths q_t_riggings q_t_toldLength q_t_toldRigging q_t_toldRoom q_t_ring q_t_was q_t_saved q_t_isThere q_t_forms q_t_sizes q_t_items q_t_moved N (1 : Int32) t_done t_many t_told t_ringN t_finding r19 u20 h21) (cwV 1 hts gX7_write_X7_meets rfl rfl rfl (by decide +kernel) ⟨Nat.le_of_ble_eq_true rfl, Nat.le_of_ble_eq_true rfl⟩) (pre_V hK hN hw [0] rfl rfl (C := RX7) (T := TX7) (N := 22) (ci := 7) (q0 := 0) rfl rfl) rfl rfl hl.1 rfl (lv_room (Nat.le_of_ble_eq_true rfl)) dX7_write_32 ⟨Nat.zero_le _, Nat.zero_le _⟩) (fun H locs hw => ?_)
        obtain ⟨rfl, rfl, rfl⟩ := pr3 (Option.some.inj hf)
        exact rt_i S hr hlk hw dX7_write_35
    · have hf := (if_pos c6).symm.trans hf
      refine lv_bipush (v := (-2 : Int32)) hx hb dX7_write_18 (by decide) ?_
      obtain ⟨rfl, rfl, rfl⟩ := pr3 (Option.some.inj hf)
      exact rt_i S hr hlk hw dX7_write_20

def f_X7_count (N : Nat) (p1 : Int32) (t_done : Int32) (t_told : Int32) (t_ringN : Int32) (t_finding : Int32) (t_boxes : (Nat → Int32)) (t_ring : (Nat → Int32)) : Option (Int32) :=
  (if p1 = (0 : Int32) then (bd1 (f_X7_balls N t_boxes) (fun r2 => (some r2))) else (if p1 = (1 : Int32) then (some t_ringN) else (if p1 = (2 : Int32) then (bd1 (f_X7_ringBalls N t_ringN t_ring) (fun r6 => (some r6))) else (if p1 = (3 : Int32) then (some t_told) else (if p1 = (4 : Int32) then (some t_done) else (if p1 = (5 : Int32) then (some t_finding) else (some (-2 : Int32))))))))

set_option maxHeartbeats 4000000 in
set_option maxRecDepth 100000 in
theorem c_X7_count (l : Launch) (D : va_G) (cI cZ cJ cO : ClassId) (sz : Nat) (q_t q_t_boxes q_t_next q_t_left q_t_pairs q_t_lengths q_t_riggings q_t_toldLength q_t_toldRigging q_t_toldRoom q_t_ring q_t_was q_t_saved q_t_isThere q_t_forms q_t_sizes q_t_items q_t_moved : Nat) (N : Nat) (p1 : Int32) (t_done : Int32) (t_many : Int32) (t_told : Int32) (t_ringN : Int32) (t_finding : Int32) (t_boxes : (Nat → Int32)) (t_ring : (Nat → Int32)) (r : Int32) (hf : f_X7_count N p1 t_done t_told t_ringN t_finding t_boxes t_ring = some r) : Met l yX7_count wsX7_count ({ frames := 1, cells := 0, slots := 0, locals := 22 }) (PreC D (TY cI cZ cJ cO) [.ref q_t, .int p1] [(q_t, .inr (7, [.ref q_t_boxes, .ref q_t_next, .int t_done, .ref q_t_left, .ref q_t_pairs, .int t_many, .ref q_t_lengths, .ref q_t_riggings, .int t_told, .ref q_t_toldLength, .ref q_t_toldRigging, .ref q_t_toldRoom, .int t_ringN, .ref q_t_ring, .ref q_t_was, .ref q_t_saved, .ref q_t_isThere, .ref q_t_forms, .ref q_t_sizes, .ref q_t_items, .ref q_t_moved, .int t_finding])), (q_t_boxes, .inl (cZ, 240, .inl t_boxes)), (q_t_ring, .inl (cZ, 40, .inl t_ring))] sz) (QcI D [(q_t, .inr (7, [.ref q_t_boxes, .ref q_t_next, .int t_done, .ref q_t_left, .ref q_t_pairs, .int t_many, .ref q_t_lengths, .ref q_t_riggings, .int t_told, .ref q_t_toldLength, .ref q_t_toldRigging, .ref q_t_toldRoom, .int t_ringN, .ref q_t_ring, .ref q_t_was, .ref q_t_saved, .ref q_t_isThere, .ref q_t_forms, .ref q_t_sizes, .ref q_t_items, .ref q_t_moved, .int t_finding])), (q_t_boxes, .inl (cZ, 240, .inl t_boxes)), (q_t_ring, .inl (cZ, 40, .inl t_ring))] (va_A [(q_t, .inr (7, [.ref q_t_boxes, .ref q_t_next, .int t_done, .ref q_t_left, .ref q_t_pairs, .int t_many, .ref q_t_lengths, .ref q_t_riggings, .int t_told, .ref q_t_toldLength, .ref q_t_toldRigging, .ref q_t_toldRoom, .int t_ringN, .ref q_t_ring, .ref q_t_was, .ref q_t_saved, .ref q_t_isThere, .ref q_t_forms, .ref q_t_sizes, .ref q_t_items, .ref q_t_moved, .int t_finding])), (q_t_boxes, .inl (cZ, 240, .inl t_boxes)), (q_t_ring, .inl (cZ, 40, .inl t_ring))] sz) r) 0 0 (va_A [(q_t, .inr (7, [.ref q_t_boxes, .ref q_t_next, .int t_done, .ref q_t_left, .ref q_t_pairs, .int t_many, .ref q_t_lengths, .ref q_t_riggings, .int t_told, .ref q_t_toldLength, .ref q_t_toldRigging, .ref q_t_toldRoom, .int t_ringN, .ref q_t_ring, .ref q_t_was, .ref q_t_saved, .ref q_t_isThere, .ref q_t_forms, .ref q_t_sizes, .ref q_t_items, .ref q_t_moved, .int t_finding])), (q_t_boxes, .inl (cZ, 240, .inl t_boxes)), (q_t_ring, .inl (cZ, 40, .inl t_ring))] sz) := by
  refine ctr (cc := cX7_count) (maxL := 2) (ret := (some .int)) (by decide) rfl (Nat.le_of_ble_eq_true rfl) ?_
  intro p e s m below meth c S hr hlk hnm hK hN hsz hA hw ls hl
  generalize va_A [(q_t, .inr (7, [.ref q_t_boxes, .ref q_t_next, .int t_done, .ref q_t_left, .ref q_t_pairs, .int t_many, .ref q_t_lengths, .ref q_t_riggings, .int t_told, .ref q_t_toldLength, .ref q_t_toldRigging, .ref q_t_toldRoom, .int t_ringN, .ref q_t_ring, .ref q_t_was, .ref q_t_saved, .ref q_t_isThere, .ref q_t_forms, .ref q_t_sizes, .ref q_t_items, .ref q_t_moved, .int t_finding])), (q_t_boxes, .inl (cZ, 240, .inl t_boxes)), (q_t_ring, .inl (cZ, 40, .inl t_ring))] sz = A at hA hw ⊢
  have S : CallFix p m c cX7_count 2 s ([.ref q_t, .int p1] : List Value).toArray wsX7_count RX7 := S
  have hx := S.1
  have hb := S.2.1
  have hts := S.2.2.2.2
  have hl : lv_has ls 2 [(0, .ref q_t), (1, .int p1)] := hl
  have hinX7 : ∀ w ∈ u_ws RX7 TX7 22, w ∈ wsX7_count := by decide +kernel
  have k38 : Cond.fieldLink RX7 38 "BallBoxesModel" "ringN" "I" ∈ wsX7_count := by decide +kernel
  have k74 : Cond.fieldLink RX7 74 "BallBoxesModel" "done" "I" ∈ wsX7_count := by decide +kernel
  have k104 : Cond.fieldLink RX7 104 "BallBoxesModel" "told" "I" ∈ wsX7_count := by decide +kernel
  have k123 : Cond.fieldLink RX7 123 "BallBoxesModel" "finding" "I" ∈ wsX7_count := by decide +kernel
  unfold f_X7_count at hf
  refine lv_iload_n hx hb dX7_count_0 rfl (lv_at hl 1 rfl) ?_
  by_cases c1 : p1 = (0 : Int32)
  · have hf := (if_pos c1).symm.trans hf
    refine lv_tableIn (off := 39) (tgt := 40) hx hb dX7_count_1 (by rw [c1]; decide) (by rw [c1]; decide) (by rw [c1]; decide) (by decide) ?_
    refine lv_aload_n hx hb dX7_count_40 rfl (lv_at hl 0 rfl) ?_
    obtain ⟨r2, h3, hf⟩ := bd1_some hf
    refine cl_i (wr := [(q_t_ring, .inl (cZ, 40, .inl t_ring))]) (ws' := [(q_t, .inr (7, [.ref q_t_boxes, .ref q_t_next, .int t_done, .ref q_t_left, .ref q_t_pairs, .int t_many, .ref q_t_lengths, .ref q_t_riggings, .int t_told, .ref q_t_toldLength, .ref q_t_toldRigging, .ref q_t_toldRoom, .int t_ringN, .ref q_t_ring, .ref q_t_was, .ref q_t_saved, .ref q_t_isThere, .ref q_t_forms, .ref q_t_sizes, .ref q_t_items, .ref q_t_moved, .int t_finding])), (q_t_boxes, .inl (cZ, 240, .inl t_boxes)), (q_t_ring, .inl (cZ, 40, .inl t_ring))]) hA hw [0, 1] [2] [1, 2, 0] rfl rfl rfl (by decide) rfl rfl (va_runV (As := []) (rest := []) S (c_X7_balls l D cI cZ cJ cO _ q_t q_t_boxes q_t_next q_t_left q_t_pairs q_t_lengths q_t_riggings q_t_toldLength q_t_toldRigging q_t_toldRoom q_t_ring q_t_was q_t_saved q_t_isThere q_t_forms q_t_sizes q_t_items q_t_moved N t_done t_many t_told t_ringN t_finding t_boxes r2 h3) (cwV 0 hts gX7_count_X7_balls rfl rfl rfl (by decide +kernel) ⟨Nat.le_of_ble_eq_true rfl, Nat.le_of_ble_eq_true rfl⟩) (pre_V hK hN hw [0, 1] rfl rfl (C := RX7) (T := TX7) (N := 22) (ci := 7) (q0 := 0) rfl rfl) rfl rfl hl.1 rfl (lv_room (Nat.le_of_ble_eq_true rfl)) dX7_count_41 ⟨Nat.zero_le _, Nat.zero_le _⟩) (fun H locs hw => ?_)
    obtain rfl := Option.some.inj hf
    exact rt_i S hr hlk hw dX7_count_44
  have hf := (if_neg c1).symm.trans hf
  by_cases c4 : p1 = (1 : Int32)
  · have hf := (if_pos c4).symm.trans hf
    refine lv_tableIn (off := 44) (tgt := 45) hx hb dX7_count_1 (by rw [c4]; decide) (by rw [c4]; decide) (by rw [c4]; decide) (by decide) ?_
    refine lv_aload_n hx hb dX7_count_45 rfl (lv_at hl 0 rfl) ?_
    refine g_get (ci := 7) (C := RX7) (T := TX7) (N := 22) S hinX7 hK hw 0 12 k38 dX7_count_46 rfl rfl (by decide) rfl ?_
    obtain rfl := Option.some.inj hf
    exact rt_i S hr hlk hw dX7_count_49
  have hf := (if_neg c4).symm.trans hf
  by_cases c5 : p1 = (2 : Int32)
  · have hf := (if_pos c5).symm.trans hf
    refine lv_tableIn (off := 49) (tgt := 50) hx hb dX7_count_1 (by rw [c5]; decide) (by rw [c5]; decide) (by rw [c5]; decide) (by decide) ?_
    refine lv_aload_n hx hb dX7_count_50 rfl (lv_at hl 0 rfl) ?_
    obtain ⟨r6, h7, hf⟩ := bd1_some hf
    refine cl_i (wr := [(q_t_boxes, .inl (cZ, 240, .inl t_boxes))]) (ws' := [(q_t, .inr (7, [.ref q_t_boxes, .ref q_t_next, .int t_done, .ref q_t_left, .ref q_t_pairs, .int t_many, .ref q_t_lengths, .ref q_t_riggings, .int t_told, .ref q_t_toldLength, .ref q_t_toldRigging, .ref q_t_toldRoom, .int t_ringN, .ref q_t_ring, .ref q_t_was, .ref q_t_saved, .ref q_t_isThere, .ref q_t_forms, .ref q_t_sizes, .ref q_t_items, .ref q_t_moved, .int t_finding])), (q_t_boxes, .inl (cZ, 240, .inl t_boxes)), (q_t_ring, .inl (cZ, 40, .inl t_ring))]) hA hw [0, 2] [1] [1, 0, 2] rfl rfl rfl (by decide) rfl rfl (va_runV (As := []) (rest := []) S (c_X7_ringBalls l D cI cZ cJ cO _ q_t q_t_boxes q_t_next q_t_left q_t_pairs q_t_lengths q_t_riggings q_t_toldLength q_t_toldRigging q_t_toldRoom q_t_ring q_t_was q_t_saved q_t_isThere q_t_forms q_t_sizes q_t_items q_t_moved N t_done t_many t_told t_ringN t_finding t_ring r6 h7) (cwV 0 hts gX7_count_X7_ringBalls rfl rfl rfl (by decide +kernel) ⟨Nat.le_of_ble_eq_true rfl, Nat.le_of_ble_eq_true rfl⟩) (pre_V hK hN hw [0, 2] rfl rfl (C := RX7) (T := TX7) (N := 22) (ci := 7) (q0 := 0) rfl rfl) rfl rfl hl.1 rfl (lv_room (Nat.le_of_ble_eq_true rfl)) dX7_count_51 ⟨Nat.zero_le _, Nat.zero_le _⟩) (fun H locs hw => ?_)
    obtain rfl := Option.some.inj hf
    exact rt_i S hr hlk hw dX7_count_54
  have hf := (if_neg c5).symm.trans hf
  by_cases c8 : p1 = (3 : Int32)
  · have hf := (if_pos c8).symm.trans hf
    refine lv_tableIn (off := 54) (tgt := 55) hx hb dX7_count_1 (by rw [c8]; decide) (by rw [c8]; decide) (by rw [c8]; decide) (by decide) ?_
    refine lv_aload_n hx hb dX7_count_55 rfl (lv_at hl 0 rfl) ?_
    refine g_get (ci := 7) (C := RX7) (T := TX7) (N := 22) S hinX7 hK hw 0 8 k104 dX7_count_56 rfl rfl (by decide) rfl ?_
    obtain rfl := Option.some.inj hf
    exact rt_i S hr hlk hw dX7_count_59
  have hf := (if_neg c8).symm.trans hf
  by_cases c9 : p1 = (4 : Int32)
  · have hf := (if_pos c9).symm.trans hf
    refine lv_tableIn (off := 59) (tgt := 60) hx hb dX7_count_1 (by rw [c9]; decide) (by rw [c9]; decide) (by rw [c9]; decide) (by decide) ?_
    refine lv_aload_n hx hb dX7_count_60 rfl (lv_at hl 0 rfl) ?_
    refine g_get (ci := 7) (C := RX7) (T := TX7) (N := 22) S hinX7 hK hw 0 2 k74 dX7_count_61 rfl rfl (by decide) rfl ?_
    obtain rfl := Option.some.inj hf
    exact rt_i S hr hlk hw dX7_count_64
  have hf := (if_neg c9).symm.trans hf
  by_cases c10 : p1 = (5 : Int32)
  · have hf := (if_pos c10).symm.trans hf
    refine lv_tableIn (off := 64) (tgt := 65) hx hb dX7_count_1 (by rw [c10]; decide) (by rw [c10]; decide) (by rw [c10]; decide) (by decide) ?_
    refine lv_aload_n hx hb dX7_count_65 rfl (lv_at hl 0 rfl) ?_
    refine g_get (ci := 7) (C := RX7) (T := TX7) (N := 22) S hinX7 hK hw 0 21 k123 dX7_count_66 rfl rfl (by decide) rfl ?_
    obtain rfl := Option.some.inj hf
    exact rt_i S hr hlk hw dX7_count_69
  have hf := (if_neg c10).symm.trans hf
  refine lv_tableOut (tgt := 70) hx hb dX7_count_1 (by have e0 := sw_ne c1 (z := 0) (by decide); have e1 := sw_ne c4 (z := 1) (by decide); have e2 := sw_ne c5 (z := 2) (by decide); have e3 := sw_ne c8 (z := 3) (by decide); have e4 := sw_ne c9 (z := 4) (by decide); have e5 := sw_ne c10 (z := 5) (by decide); omega) (by decide) ?_
  refine lv_bipush (v := (-2 : Int32)) hx hb dX7_count_70 (by decide) ?_
  obtain rfl := Option.some.inj hf
  exact rt_i S hr hlk hw dX7_count_72

def L_X7_digest_6 (N : Nat) (t_done : Int32) (t_told : Int32) (t_ringN : Int32) (t_finding : Int32) (t_boxes : (Nat → Int32)) (t_ring : (Nat → Int32)) (K : Int64 → Option (Int64)) : Nat → Int64 → Int32 → Option (Int64)
  | 0, _, _ => none
  | n + 1, x1, x3 => (if (5 : Int32) ≤ x3 then (K x1) else (bd1 (f_X7_count N x3 t_done t_told t_ringN t_finding t_boxes t_ring) (fun r2 => (L_X7_digest_6 N t_done t_told t_ringN t_finding t_boxes t_ring K n (((31 : Int64) * x1) + r2.toInt64) (x3 + (1 : Int32))))))

def L_X7_digest_32 (N : Nat) (t_boxes : (Nat → Int32)) (K : Int64 → Option (Int64)) : Nat → Int64 → Int32 → Option (Int64)
  | 0, _, _ => none
  | n + 1, x1, x3 => (if (240 : Int32) ≤ x3 then (K x1) else (ck (inb x3 240) (if (t_boxes x3.toNatClampNeg) = (0 : Int32) then (L_X7_digest_32 N t_boxes K n (((31 : Int64) * x1) + (0 : Int32).toInt64) (x3 + (1 : Int32))) else (L_X7_digest_32 N t_boxes K n (((31 : Int64) * x1) + (1 : Int32).toInt64) (x3 + (1 : Int32))))))

def L_X7_digest_69 (N : Nat) (t_ringN : Int32) (t_ring : (Nat → Int32)) (K : Int64 → Option (Int64)) : Nat → Int64 → Int32 → Option (Int64)
  | 0, _, _ => none
  | n + 1, x1, x3 => (if t_ringN ≤ x3 then (K x1) else (ck (inb x3 40) (if (t_ring x3.toNatClampNeg) = (0 : Int32) then (L_X7_digest_69 N t_ringN t_ring K n (((31 : Int64) * x1) + (0 : Int32).toInt64) (x3 + (1 : Int32))) else (L_X7_digest_69 N t_ringN t_ring K n (((31 : Int64) * x1) + (1 : Int32).toInt64) (x3 + (1 : Int32))))))

def f_X7_digest (N : Nat)  (t_done : Int32) (t_told : Int32) (t_ringN : Int32) (t_finding : Int32) (t_boxes : (Nat → Int32)) (t_ring : (Nat → Int32)) : Option (Int64) :=
  (L_X7_digest_6 N t_done t_told t_ringN t_finding t_boxes t_ring (fun y4 => (L_X7_digest_32 N t_boxes (fun y8 => (L_X7_digest_69 N t_ringN t_ring (fun y12 => (some y12)) N y8 (0 : Int32))) N y4 (0 : Int32))) N (17 : Int64) (0 : Int32))

set_option maxHeartbeats 4000000 in
set_option maxRecDepth 100000 in
theorem c_X7_digest (l : Launch) (D : va_G) (cI cZ cJ cO : ClassId) (sz : Nat) (q_t q_t_boxes q_t_next q_t_left q_t_pairs q_t_lengths q_t_riggings q_t_toldLength q_t_toldRigging q_t_toldRoom q_t_ring q_t_was q_t_saved q_t_isThere q_t_forms q_t_sizes q_t_items q_t_moved : Nat) (N : Nat)  (t_done : Int32) (t_many : Int32) (t_told : Int32) (t_ringN : Int32) (t_finding : Int32) (t_boxes : (Nat → Int32)) (t_ring : (Nat → Int32)) (r : Int64) (hf : f_X7_digest N t_done t_told t_ringN t_finding t_boxes t_ring = some r) : Met l yX7_digest wsX7_digest ({ frames := 2, cells := 0, slots := 0, locals := 43 }) (PreC D (TY cI cZ cJ cO) [.ref q_t] [(q_t, .inr (7, [.ref q_t_boxes, .ref q_t_next, .int t_done, .ref q_t_left, .ref q_t_pairs, .int t_many, .ref q_t_lengths, .ref q_t_riggings, .int t_told, .ref q_t_toldLength, .ref q_t_toldRigging, .ref q_t_toldRoom, .int t_ringN, .ref q_t_ring, .ref q_t_was, .ref q_t_saved, .ref q_t_isThere, .ref q_t_forms, .ref q_t_sizes, .ref q_t_items, .ref q_t_moved, .int t_finding])), (q_t_boxes, .inl (cZ, 240, .inl t_boxes)), (q_t_ring, .inl (cZ, 40, .inl t_ring))] sz) (QcL D [(q_t, .inr (7, [.ref q_t_boxes, .ref q_t_next, .int t_done, .ref q_t_left, .ref q_t_pairs, .int t_many, .ref q_t_lengths, .ref q_t_riggings, .int t_told, .ref q_t_toldLength, .ref q_t_toldRigging, .ref q_t_toldRoom, .int t_ringN, .ref q_t_ring, .ref q_t_was, .ref q_t_saved, .ref q_t_isThere, .ref q_t_forms, .ref q_t_sizes, .ref q_t_items, .ref q_t_moved, .int t_finding])), (q_t_boxes, .inl (cZ, 240, .inl t_boxes)), (q_t_ring, .inl (cZ, 40, .inl t_ring))] (va_A [(q_t, .inr (7, [.ref q_t_boxes, .ref q_t_next, .int t_done, .ref q_t_left, .ref q_t_pairs, .int t_many, .ref q_t_lengths, .ref q_t_riggings, .int t_told, .ref q_t_toldLength, .ref q_t_toldRigging, .ref q_t_toldRoom, .int t_ringN, .ref q_t_ring, .ref q_t_was, .ref q_t_saved, .ref q_t_isThere, .ref q_t_forms, .ref q_t_sizes, .ref q_t_items, .ref q_t_moved, .int t_finding])), (q_t_boxes, .inl (cZ, 240, .inl t_boxes)), (q_t_ring, .inl (cZ, 40, .inl t_ring))] sz) r) 0 0 (va_A [(q_t, .inr (7, [.ref q_t_boxes, .ref q_t_next, .int t_done, .ref q_t_left, .ref q_t_pairs, .int t_many, .ref q_t_lengths, .ref q_t_riggings, .int t_told, .ref q_t_toldLength, .ref q_t_toldRigging, .ref q_t_toldRoom, .int t_ringN, .ref q_t_ring, .ref q_t_was, .ref q_t_saved, .ref q_t_isThere, .ref q_t_forms, .ref q_t_sizes, .ref q_t_items, .ref q_t_moved, .int t_finding])), (q_t_boxes, .inl (cZ, 240, .inl t_boxes)), (q_t_ring, .inl (cZ, 40, .inl t_ring))] sz) := by
  refine ctr (cc := cX7_digest) (maxL := 4) (ret := (some .long)) (by decide) rfl (Nat.le_of_ble_eq_true rfl) ?_
  intro p e s m below meth c S hr hlk hnm hK hN hsz hA hw ls hl
  generalize va_A [(q_t, .inr (7, [.ref q_t_boxes, .ref q_t_next, .int t_done, .ref q_t_left, .ref q_t_pairs, .int t_many, .ref q_t_lengths, .ref q_t_riggings, .int t_told, .ref q_t_toldLength, .ref q_t_toldRigging, .ref q_t_toldRoom, .int t_ringN, .ref q_t_ring, .ref q_t_was, .ref q_t_saved, .ref q_t_isThere, .ref q_t_forms, .ref q_t_sizes, .ref q_t_items, .ref q_t_moved, .int t_finding])), (q_t_boxes, .inl (cZ, 240, .inl t_boxes)), (q_t_ring, .inl (cZ, 40, .inl t_ring))] sz = A at hA hw ⊢
  have S : CallFix p m c cX7_digest 4 s ([.ref q_t] : List Value).toArray wsX7_digest RX7 := S
  have hx := S.1
  have hb := S.2.1
  have hts := S.2.2.2.2
  have hl : lv_has ls 4 [(0, .ref q_t)] := hl
  have hinX7 : ∀ w ∈ u_ws RX7 TX7 22, w ∈ wsX7_digest := by decide +kernel
  have k7 : Cond.fieldLink RX7 7 "BallBoxesModel" "boxes" "[Z" ∈ wsX7_digest := by decide +kernel
  have k38 : Cond.fieldLink RX7 38 "BallBoxesModel" "ringN" "I" ∈ wsX7_digest := by decide +kernel
  have k42 : Cond.fieldLink RX7 42 "BallBoxesModel" "ring" "[Z" ∈ wsX7_digest := by decide +kernel
  have Lp6 : ∀  (K : Int64 → Option (Int64)), (∀ (z1 : Int64) (H : Heap) (locs : List Loc) (ls : Array Slot), Wd D A s.heap [(q_t, .inr (7, [.ref q_t_boxes, .ref q_t_next, .int t_done, .ref q_t_left, .ref q_t_pairs, .int t_many, .ref q_t_lengths, .ref q_t_riggings, .int t_told, .ref q_t_toldLength, .ref q_t_toldRigging, .ref q_t_toldRoom, .int t_ringN, .ref q_t_ring, .ref q_t_was, .ref q_t_saved, .ref q_t_isThere, .ref q_t_forms, .ref q_t_sizes, .ref q_t_items, .ref q_t_moved, .int t_finding])), (q_t_boxes, .inl (cZ, 240, .inl t_boxes)), (q_t_ring, .inl (cZ, 40, .inl t_ring))] H locs → lv_has ls 4 [(0, .ref q_t), (1, .long z1)] → K z1 = some r → W p l e ({ frames := 2, cells := 0, slots := 0, locals := 43 } : Room) s m ([.ref q_t] : List Value).toArray below meth c H locs 0 0 (MQ below (QcL D [(q_t, .inr (7, [.ref q_t_boxes, .ref q_t_next, .int t_done, .ref q_t_left, .ref q_t_pairs, .int t_many, .ref q_t_lengths, .ref q_t_riggings, .int t_told, .ref q_t_toldLength, .ref q_t_toldRigging, .ref q_t_toldRoom, .int t_ringN, .ref q_t_ring, .ref q_t_was, .ref q_t_saved, .ref q_t_isThere, .ref q_t_forms, .ref q_t_sizes, .ref q_t_items, .ref q_t_moved, .int t_finding])), (q_t_boxes, .inl (cZ, 240, .inl t_boxes)), (q_t_ring, .inl (cZ, 40, .inl t_ring))] A r) ([.ref q_t] : List Value).toArray s 0 0 A) (F0 m 30 ls [])) → ∀ (n : Nat) (x1 : Int64) (x3 : Int32) (H : Heap) (locs : List Loc) (ls : Array Slot), Wd D A s.heap [(q_t, .inr (7, [.ref q_t_boxes, .ref q_t_next, .int t_done, .ref q_t_left, .ref q_t_pairs, .int t_many, .ref q_t_lengths, .ref q_t_riggings, .int t_told, .ref q_t_toldLength, .ref q_t_toldRigging, .ref q_t_toldRoom, .int t_ringN, .ref q_t_ring, .ref q_t_was, .ref q_t_saved, .ref q_t_isThere, .ref q_t_forms, .ref q_t_sizes, .ref q_t_items, .ref q_t_moved, .int t_finding])), (q_t_boxes, .inl (cZ, 240, .inl t_boxes)), (q_t_ring, .inl (cZ, 40, .inl t_ring))] H locs → lv_has ls 4 [(0, .ref q_t), (1, .long x1), (3, .int x3)] → L_X7_digest_6 N t_done t_told t_ringN t_finding t_boxes t_ring K n x1 x3 = some r → W p l e ({ frames := 2, cells := 0, slots := 0, locals := 43 } : Room) s m ([.ref q_t] : List Value).toArray below meth c H locs 0 0 (MQ below (QcL D [(q_t, .inr (7, [.ref q_t_boxes, .ref q_t_next, .int t_done, .ref q_t_left, .ref q_t_pairs, .int t_many, .ref q_t_lengths, .ref q_t_riggings, .int t_told, .ref q_t_toldLength, .ref q_t_toldRigging, .ref q_t_toldRoom, .int t_ringN, .ref q_t_ring, .ref q_t_was, .ref q_t_saved, .ref q_t_isThere, .ref q_t_forms, .ref q_t_sizes, .ref q_t_items, .ref q_t_moved, .int t_finding])), (q_t_boxes, .inl (cZ, 240, .inl t_boxes)), (q_t_ring, .inl (cZ, 40, .inl t_ring))] A r) ([.ref q_t] : List Value).toArray s 0 0 A) (F0 m 6 ls []) := by
    intro  K hKx n
    induction n with
    | zero =>
      intro x1 x3 H locs ls hw hl hf
      rw [L_X7_digest_6] at hf
      cases hf
    | succ n ih =>
      intro x1 x3 H locs ls hw hl hf
      rw [L_X7_digest_6] at hf
      refine lv_iload_n hx hb dX7_digest_6 rfl (lv_at hl 2 rfl) ?_
      refine lv_iconst (v := (5 : Int32)) hx hb dX7_digest_7 (by decide) ?_
      refine lv_icmp_ge (tgt := 30) hx hb dX7_digest_8 (by decide) (fun c1 => ?_) (fun c1 => ?_)
      · have hf := (if_pos c1).symm.trans hf
        exact hKx x1 _ _ _ hw (lv_sub hl [0, 1] rfl) hf
      · have hf := (if_neg c1).symm.trans hf
        refine lv_ldc2 (v := (31 : Int64)) hx hb S.2.2.2.1 (hts (.constantLong RX7 143 (31)) (by decide +kernel)) dX7_digest_11 ?_
        refine lv_lload_n hx hb dX7_digest_14 rfl (lv_at hl 1 rfl) ?_
        refine lv_lmul hx hb dX7_digest_15 ?_
        refine lv_aload_n hx hb dX7_digest_16 rfl (lv_at hl 0 rfl) ?_
        refine lv_iload_n hx hb dX7_digest_17 rfl (lv_at hl 2 rfl) ?_
        obtain ⟨r2, h3, hf⟩ := bd1_some hf
        refine cl_i (wr := []) (ws' := [(q_t, .inr (7, [.ref q_t_boxes, .ref q_t_next, .int t_done, .ref q_t_left, .ref q_t_pairs, .int t_many, .ref q_t_lengths, .ref q_t_riggings, .int t_told, .ref q_t_toldLength, .ref q_t_toldRigging, .ref q_t_toldRoom, .int t_ringN, .ref q_t_ring, .ref q_t_was, .ref q_t_saved, .ref q_t_isThere, .ref q_t_forms, .ref q_t_sizes, .ref q_t_items, .ref q_t_moved, .int t_finding])), (q_t_boxes, .inl (cZ, 240, .inl t_boxes)), (q_t_ring, .inl (cZ, 40, .inl t_ring))]) hA hw [0, 1, 2] [] [0, 1, 2] rfl rfl rfl (by decide) rfl rfl (va_runV (As := [.int x3]) (rest := [.long ((31 : Int64) * x1)]) S (c_X7_count l D cI cZ cJ cO _ q_t q_t_boxes q_t_next q_t_left q_t_pairs q_t_lengths q_t_riggings q_t_toldLength q_t_toldRigging q_t_toldRoom q_t_ring q_t_was q_t_saved q_t_isThere q_t_forms q_t_sizes q_t_items q_t_moved N x3 t_done t_many t_told t_ringN t_finding t_boxes t_ring r2 h3) (cwV 1 hts gX7_digest_X7_count rfl rfl rfl (by decide +kernel) ⟨Nat.le_of_ble_eq_true rfl, Nat.le_of_ble_eq_true rfl⟩) (pre_V hK hN hw [0, 1, 2] rfl rfl (C := RX7) (T := TX7) (N := 22) (ci := 7) (q0 := 0) rfl rfl) rfl rfl hl.1 rfl (lv_room (Nat.le_of_ble_eq_true rfl)) dX7_digest_18 ⟨Nat.zero_le _, Nat.zero_le _⟩) (fun H locs hw => ?_)
        refine lv_i2l (v := r2.toInt64) hx hb dX7_digest_21 rfl ?_
        refine lv_ladd hx hb dX7_digest_22 ?_
        refine lv_lstore_n (lv' := [(1, .long (((31 : Int64) * x1) + r2.toInt64)), (0, .ref q_t), (3, .int x3)]) hx hb dX7_digest_23 rfl hl (by decide) rfl (fun ls hl => ?_)
        refine lv_iinc (v := (x3 + (1 : Int32))) (lv' := [(3, .int (x3 + (1 : Int32))), (1, .long (((31 : Int64) * x1) + r2.toInt64)), (0, .ref q_t)]) hx hb dX7_digest_24 hl (k := 2) rfl rfl (by decide) rfl (fun ls hl => ?_)
        refine lv_goto (tgt := 6) hx hb dX7_digest_27 (by decide) ?_
        exact ih (((31 : Int64) * x1) + r2.toInt64) (x3 + (1 : Int32)) _ _ _ hw (lv_sub hl [2, 1, 0] rfl) hf
  have Lp32 : ∀  (K : Int64 → Option (Int64)), (∀ (z1 : Int64) (H : Heap) (locs : List Loc) (ls : Array Slot), Wd D A s.heap [(q_t, .inr (7, [.ref q_t_boxes, .ref q_t_next, .int t_done, .ref q_t_left, .ref q_t_pairs, .int t_many, .ref q_t_lengths, .ref q_t_riggings, .int t_told, .ref q_t_toldLength, .ref q_t_toldRigging, .ref q_t_toldRoom, .int t_ringN, .ref q_t_ring, .ref q_t_was, .ref q_t_saved, .ref q_t_isThere, .ref q_t_forms, .ref q_t_sizes, .ref q_t_items, .ref q_t_moved, .int t_finding])), (q_t_boxes, .inl (cZ, 240, .inl t_boxes)), (q_t_ring, .inl (cZ, 40, .inl t_ring))] H locs → lv_has ls 4 [(0, .ref q_t), (1, .long z1)] → K z1 = some r → W p l e ({ frames := 2, cells := 0, slots := 0, locals := 43 } : Room) s m ([.ref q_t] : List Value).toArray below meth c H locs 0 0 (MQ below (QcL D [(q_t, .inr (7, [.ref q_t_boxes, .ref q_t_next, .int t_done, .ref q_t_left, .ref q_t_pairs, .int t_many, .ref q_t_lengths, .ref q_t_riggings, .int t_told, .ref q_t_toldLength, .ref q_t_toldRigging, .ref q_t_toldRoom, .int t_ringN, .ref q_t_ring, .ref q_t_was, .ref q_t_saved, .ref q_t_isThere, .ref q_t_forms, .ref q_t_sizes, .ref q_t_items, .ref q_t_moved, .int t_finding])), (q_t_boxes, .inl (cZ, 240, .inl t_boxes)), (q_t_ring, .inl (cZ, 40, .inl t_ring))] A r) ([.ref q_t] : List Value).toArray s 0 0 A) (F0 m 67 ls [])) → ∀ (n : Nat) (x1 : Int64) (x3 : Int32) (H : Heap) (locs : List Loc) (ls : Array Slot), Wd D A s.heap [(q_t, .inr (7, [.ref q_t_boxes, .ref q_t_next, .int t_done, .ref q_t_left, .ref q_t_pairs, .int t_many, .ref q_t_lengths, .ref q_t_riggings, .int t_told, .ref q_t_toldLength, .ref q_t_toldRigging, .ref q_t_toldRoom, .int t_ringN, .ref q_t_ring, .ref q_t_was, .ref q_t_saved, .ref q_t_isThere, .ref q_t_forms, .ref q_t_sizes, .ref q_t_items, .ref q_t_moved, .int t_finding])), (q_t_boxes, .inl (cZ, 240, .inl t_boxes)), (q_t_ring, .inl (cZ, 40, .inl t_ring))] H locs → lv_has ls 4 [(0, .ref q_t), (1, .long x1), (3, .int x3)] → L_X7_digest_32 N t_boxes K n x1 x3 = some r → W p l e ({ frames := 2, cells := 0, slots := 0, locals := 43 } : Room) s m ([.ref q_t] : List Value).toArray below meth c H locs 0 0 (MQ below (QcL D [(q_t, .inr (7, [.ref q_t_boxes, .ref q_t_next, .int t_done, .ref q_t_left, .ref q_t_pairs, .int t_many, .ref q_t_lengths, .ref q_t_riggings, .int t_told, .ref q_t_toldLength, .ref q_t_toldRigging, .ref q_t_toldRoom, .int t_ringN, .ref q_t_ring, .ref q_t_was, .ref q_t_saved, .ref q_t_isThere, .ref q_t_forms, .ref q_t_sizes, .ref q_t_items, .ref q_t_moved, .int t_finding])), (q_t_boxes, .inl (cZ, 240, .inl t_boxes)), (q_t_ring, .inl (cZ, 40, .inl t_ring))] A r) ([.ref q_t] : List Value).toArray s 0 0 A) (F0 m 32 ls []) := by
    intro  K hKx n
    induction n with
    | zero =>
      intro x1 x3 H locs ls hw hl hf
      rw [L_X7_digest_32] at hf
      cases hf
    | succ n ih =>
      intro x1 x3 H locs ls hw hl hf
      rw [L_X7_digest_32] at hf
      refine lv_iload_n hx hb dX7_digest_32 rfl (lv_at hl 2 rfl) ?_
      refine lv_sipush (v := (240 : Int32)) hx hb dX7_digest_33 (by decide) ?_
      refine lv_icmp_ge (tgt := 67) hx hb dX7_digest_36 (by decide) (fun c5 => ?_) (fun c5 => ?_)
      · have hf := (if_pos c5).symm.trans hf
        exact hKx x1 _ _ _ hw (lv_sub hl [0, 1] rfl) hf
      · have hf := (if_neg c5).symm.trans hf
        refine lv_ldc2 (v := (31 : Int64)) hx hb S.2.2.2.1 (hts (.constantLong RX7 143 (31)) (by decide +kernel)) dX7_digest_39 ?_
        refine lv_lload_n hx hb dX7_digest_42 rfl (lv_at hl 1 rfl) ?_
        refine lv_lmul hx hb dX7_digest_43 ?_
        refine lv_aload_n hx hb dX7_digest_44 rfl (lv_at hl 0 rfl) ?_
        refine g_get (ci := 7) (C := RX7) (T := TX7) (N := 22) S hinX7 hK hw 0 0 k7 dX7_digest_45 rfl rfl (by decide) rfl ?_
        refine lv_iload_n hx hb dX7_digest_48 rfl (lv_at hl 2 rfl) ?_
        obtain ⟨b6, hf⟩ := ck_some hf
        refine g_zald S hK hw 1 1 b6 dX7_digest_49 rfl rfl ?_
        refine lv_if_eq (tgt := 57) hx hb dX7_digest_50 (by decide) (fun c7 => ?_) (fun c7 => ?_)
        · have hf := (if_pos c7).symm.trans hf
          refine lv_iconst (v := (0 : Int32)) hx hb dX7_digest_57 (by decide) ?_
          refine lv_i2l (v := (0 : Int32).toInt64) hx hb dX7_digest_58 rfl ?_
          refine lv_ladd hx hb dX7_digest_59 ?_
          refine lv_lstore_n (lv' := [(1, .long (((31 : Int64) * x1) + (0 : Int32).toInt64)), (0, .ref q_t), (3, .int x3)]) hx hb dX7_digest_60 rfl hl (by decide) rfl (fun ls hl => ?_)
          refine lv_iinc (v := (x3 + (1 : Int32))) (lv' := [(3, .int (x3 + (1 : Int32))), (1, .long (((31 : Int64) * x1) + (0 : Int32).toInt64)), (0, .ref q_t)]) hx hb dX7_digest_61 hl (k := 2) rfl rfl (by decide) rfl (fun ls hl => ?_)
          refine lv_goto (tgt := 32) hx hb dX7_digest_64 (by decide) ?_
          exact ih (((31 : Int64) * x1) + (0 : Int32).toInt64) (x3 + (1 : Int32)) _ _ _ hw (lv_sub hl [2, 1, 0] rfl) hf
        · have hf := (if_neg c7).symm.trans hf
          refine lv_iconst (v := (1 : Int32)) hx hb dX7_digest_53 (by decide) ?_
          refine lv_goto (tgt := 58) hx hb dX7_digest_54 (by decide) ?_
          refine lv_i2l (v := (1 : Int32).toInt64) hx hb dX7_digest_58 rfl ?_
          refine lv_ladd hx hb dX7_digest_59 ?_
          refine lv_lstore_n (lv' := [(1, .long (((31 : Int64) * x1) + (1 : Int32).toInt64)), (0, .ref q_t), (3, .int x3)]) hx hb dX7_digest_60 rfl hl (by decide) rfl (fun ls hl => ?_)
          refine lv_iinc (v := (x3 + (1 : Int32))) (lv' := [(3, .int (x3 + (1 : Int32))), (1, .long (((31 : Int64) * x1) + (1 : Int32).toInt64)), (0, .ref q_t)]) hx hb dX7_digest_61 hl (k := 2) rfl rfl (by decide) rfl (fun ls hl => ?_)
          refine lv_goto (tgt := 32) hx hb dX7_digest_64 (by decide) ?_
          exact ih (((31 : Int64) * x1) + (1 : Int32).toInt64) (x3 + (1 : Int32)) _ _ _ hw (lv_sub hl [2, 1, 0] rfl) hf
  have Lp69 : ∀  (K : Int64 → Option (Int64)), (∀ (z1 : Int64) (H : Heap) (locs : List Loc) (ls : Array Slot), Wd D A s.heap [(q_t, .inr (7, [.ref q_t_boxes, .ref q_t_next, .int t_done, .ref q_t_left, .ref q_t_pairs, .int t_many, .ref q_t_lengths, .ref q_t_riggings, .int t_told, .ref q_t_toldLength, .ref q_t_toldRigging, .ref q_t_toldRoom, .int t_ringN, .ref q_t_ring, .ref q_t_was, .ref q_t_saved, .ref q_t_isThere, .ref q_t_forms, .ref q_t_sizes, .ref q_t_items, .ref q_t_moved, .int t_finding])), (q_t_boxes, .inl (cZ, 240, .inl t_boxes)), (q_t_ring, .inl (cZ, 40, .inl t_ring))] H locs → lv_has ls 4 [(1, .long z1)] → K z1 = some r → W p l e ({ frames := 2, cells := 0, slots := 0, locals := 43 } : Room) s m ([.ref q_t] : List Value).toArray below meth c H locs 0 0 (MQ below (QcL D [(q_t, .inr (7, [.ref q_t_boxes, .ref q_t_next, .int t_done, .ref q_t_left, .ref q_t_pairs, .int t_many, .ref q_t_lengths, .ref q_t_riggings, .int t_told, .ref q_t_toldLength, .ref q_t_toldRigging, .ref q_t_toldRoom, .int t_ringN, .ref q_t_ring, .ref q_t_was, .ref q_t_saved, .ref q_t_isThere, .ref q_t_forms, .ref q_t_sizes, .ref q_t_items, .ref q_t_moved, .int t_finding])), (q_t_boxes, .inl (cZ, 240, .inl t_boxes)), (q_t_ring, .inl (cZ, 40, .inl t_ring))] A r) ([.ref q_t] : List Value).toArray s 0 0 A) (F0 m 105 ls [])) → ∀ (n : Nat) (x1 : Int64) (x3 : Int32) (H : Heap) (locs : List Loc) (ls : Array Slot), Wd D A s.heap [(q_t, .inr (7, [.ref q_t_boxes, .ref q_t_next, .int t_done, .ref q_t_left, .ref q_t_pairs, .int t_many, .ref q_t_lengths, .ref q_t_riggings, .int t_told, .ref q_t_toldLength, .ref q_t_toldRigging, .ref q_t_toldRoom, .int t_ringN, .ref q_t_ring, .ref q_t_was, .ref q_t_saved, .ref q_t_isThere, .ref q_t_forms, .ref q_t_sizes, .ref q_t_items, .ref q_t_moved, .int t_finding])), (q_t_boxes, .inl (cZ, 240, .inl t_boxes)), (q_t_ring, .inl (cZ, 40, .inl t_ring))] H locs → lv_has ls 4 [(0, .ref q_t), (1, .long x1), (3, .int x3)] → L_X7_digest_69 N t_ringN t_ring K n x1 x3 = some r → W p l e ({ frames := 2, cells := 0, slots := 0, locals := 43 } : Room) s m ([.ref q_t] : List Value).toArray below meth c H locs 0 0 (MQ below (QcL D [(q_t, .inr (7, [.ref q_t_boxes, .ref q_t_next, .int t_done, .ref q_t_left, .ref q_t_pairs, .int t_many, .ref q_t_lengths, .ref q_t_riggings, .int t_told, .ref q_t_toldLength, .ref q_t_toldRigging, .ref q_t_toldRoom, .int t_ringN, .ref q_t_ring, .ref q_t_was, .ref q_t_saved, .ref q_t_isThere, .ref q_t_forms, .ref q_t_sizes, .ref q_t_items, .ref q_t_moved, .int t_finding])), (q_t_boxes, .inl (cZ, 240, .inl t_boxes)), (q_t_ring, .inl (cZ, 40, .inl t_ring))] A r) ([.ref q_t] : List Value).toArray s 0 0 A) (F0 m 69 ls []) := by
    intro  K hKx n
    induction n with
    | zero =>
      intro x1 x3 H locs ls hw hl hf
      rw [L_X7_digest_69] at hf
      cases hf
    | succ n ih =>
      intro x1 x3 H locs ls hw hl hf
      rw [L_X7_digest_69] at hf
      refine lv_iload_n hx hb dX7_digest_69 rfl (lv_at hl 2 rfl) ?_
      refine lv_aload_n hx hb dX7_digest_70 rfl (lv_at hl 0 rfl) ?_
      refine g_get (ci := 7) (C := RX7) (T := TX7) (N := 22) S hinX7 hK hw 0 12 k38 dX7_digest_71 rfl rfl (by decide) rfl ?_
      refine lv_icmp_ge (tgt := 105) hx hb dX7_digest_74 (by decide) (fun c9 => ?_) (fun c9 => ?_)
      · have hf := (if_pos c9).symm.trans hf
        exact hKx x1 _ _ _ hw (lv_sub hl [1] rfl) hf
      · have hf := (if_neg c9).symm.trans hf
        refine lv_ldc2 (v := (31 : Int64)) hx hb S.2.2.2.1 (hts (.constantLong RX7 143 (31)) (by decide +kernel)) dX7_digest_77 ?_
        refine lv_lload_n hx hb dX7_digest_80 rfl (lv_at hl 1 rfl) ?_
        refine lv_lmul hx hb dX7_digest_81 ?_
        refine lv_aload_n hx hb dX7_digest_82 rfl (lv_at hl 0 rfl) ?_
        refine g_get (ci := 7) (C := RX7) (T := TX7) (N := 22) S hinX7 hK hw 0 13 k42 dX7_digest_83 rfl rfl (by decide) rfl ?_
        refine lv_iload_n hx hb dX7_digest_86 rfl (lv_at hl 2 rfl) ?_
        obtain ⟨b10, hf⟩ := ck_some hf
        refine g_zald S hK hw 2 1 b10 dX7_digest_87 rfl rfl ?_
        refine lv_if_eq (tgt := 95) hx hb dX7_digest_88 (by decide) (fun c11 => ?_) (fun c11 => ?_)
        · have hf := (if_pos c11).symm.trans hf
          refine lv_iconst (v := (0 : Int32)) hx hb dX7_digest_95 (by decide) ?_
          refine lv_i2l (v := (0 : Int32).toInt64) hx hb dX7_digest_96 rfl ?_
          refine lv_ladd hx hb dX7_digest_97 ?_
          refine lv_lstore_n (lv' := [(1, .long (((31 : Int64) * x1) + (0 : Int32).toInt64)), (0, .ref q_t), (3, .int x3)]) hx hb dX7_digest_98 rfl hl (by decide) rfl (fun ls hl => ?_)
          refine lv_iinc (v := (x3 + (1 : Int32))) (lv' := [(3, .int (x3 + (1 : Int32))), (1, .long (((31 : Int64) * x1) + (0 : Int32).toInt64)), (0, .ref q_t)]) hx hb dX7_digest_99 hl (k := 2) rfl rfl (by decide) rfl (fun ls hl => ?_)
          refine lv_goto (tgt := 69) hx hb dX7_digest_102 (by decide) ?_
          exact ih (((31 : Int64) * x1) + (0 : Int32).toInt64) (x3 + (1 : Int32)) _ _ _ hw (lv_sub hl [2, 1, 0] rfl) hf
        · have hf := (if_neg c11).symm.trans hf
          refine lv_iconst (v := (1 : Int32)) hx hb dX7_digest_91 (by decide) ?_
          refine lv_goto (tgt := 96) hx hb dX7_digest_92 (by decide) ?_
          refine lv_i2l (v := (1 : Int32).toInt64) hx hb dX7_digest_96 rfl ?_
          refine lv_ladd hx hb dX7_digest_97 ?_
          refine lv_lstore_n (lv' := [(1, .long (((31 : Int64) * x1) + (1 : Int32).toInt64)), (0, .ref q_t), (3, .int x3)]) hx hb dX7_digest_98 rfl hl (by decide) rfl (fun ls hl => ?_)
          refine lv_iinc (v := (x3 + (1 : Int32))) (lv' := [(3, .int (x3 + (1 : Int32))), (1, .long (((31 : Int64) * x1) + (1 : Int32).toInt64)), (0, .ref q_t)]) hx hb dX7_digest_99 hl (k := 2) rfl rfl (by decide) rfl (fun ls hl => ?_)
          refine lv_goto (tgt := 69) hx hb dX7_digest_102 (by decide) ?_
          exact ih (((31 : Int64) * x1) + (1 : Int32).toInt64) (x3 + (1 : Int32)) _ _ _ hw (lv_sub hl [2, 1, 0] rfl) hf
  unfold f_X7_digest at hf
  refine lv_ldc2 (v := (17 : Int64)) hx hb S.2.2.2.1 (hts (.constantLong RX7 141 (17)) (by decide +kernel)) dX7_digest_0 ?_
  refine lv_lstore_n (lv' := [(1, .long (17 : Int64)), (0, .ref q_t)]) hx hb dX7_digest_3 rfl hl (by decide) rfl (fun ls hl => ?_)
  refine lv_iconst (v := (0 : Int32)) hx hb dX7_digest_4 (by decide) ?_
  refine lv_istore_n (lv' := [(3, .int (0 : Int32)), (1, .long (17 : Int64)), (0, .ref q_t)]) hx hb dX7_digest_5 rfl hl (by decide) rfl (fun ls hl => ?_)
  refine Lp6  _ (fun y4 H locs ls hw hl hf => ?_) N (17 : Int64) (0 : Int32) _ _ _ hw (lv_sub hl [2, 1, 0] rfl) hf
  refine lv_iconst (v := (0 : Int32)) hx hb dX7_digest_30 (by decide) ?_
  refine lv_istore_n (lv' := [(3, .int (0 : Int32)), (0, .ref q_t), (1, .long y4)]) hx hb dX7_digest_31 rfl hl (by decide) rfl (fun ls hl => ?_)
  refine Lp32  _ (fun y8 H locs ls hw hl hf => ?_) N y4 (0 : Int32) _ _ _ hw (lv_sub hl [1, 2, 0] rfl) hf
  refine lv_iconst (v := (0 : Int32)) hx hb dX7_digest_67 (by decide) ?_
  refine lv_istore_n (lv' := [(3, .int (0 : Int32)), (0, .ref q_t), (1, .long y8)]) hx hb dX7_digest_68 rfl hl (by decide) rfl (fun ls hl => ?_)
  refine Lp69  _ (fun y12 H locs ls hw hl hf => ?_) N y8 (0 : Int32) _ _ _ hw (lv_sub hl [1, 2, 0] rfl) hf
  refine lv_lload_n hx hb dX7_digest_105 rfl (lv_at hl 0 rfl) ?_
  obtain rfl := Option.some.inj hf
  exact rt_l S hr hlk hw dX7_digest_106
