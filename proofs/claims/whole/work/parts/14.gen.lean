def L_X6_digest_6 (N : Nat) (t_moves : Int32) (t_latestFinding : Int32) (t_theRow_boxes : (Nat → Int32)) (t_latestStrings_size : Int32) (t_theRing_size : Int32) (t_theRing_bits : Int64) (K : Int64 → Option (Int64)) : Nat → Int64 → Int32 → Option (Int64)
  | 0, _, _ => none
  | n + 1, x1, x3 => (if (4 : Int32) < x3 then (K x1) else (bd1 (f_X6_count N x3 t_moves t_latestFinding t_theRow_boxes t_latestStrings_size t_theRing_size t_theRing_bits) (fun r2 => (L_X6_digest_6 N t_moves t_latestFinding t_theRow_boxes t_latestStrings_size t_theRing_size t_theRing_bits K n (((31 : Int64) * x1) + r2.toInt64) (x3 + (1 : Int32))))))

def L_X6_digest_32 (N : Nat) (t_theRow_boxes : (Nat → Int32)) (K : Int64 → Option (Int64)) : Nat → Int64 → Int32 → Option (Int64)
  | 0, _, _ => none
  | n + 1, x1, x3 => (if (240 : Int32) ≤ x3 then (K x1) else (bd1 (f_X3_ballAt N x3 t_theRow_boxes) (fun r6 => (L_X6_digest_32 N t_theRow_boxes K n (((31 : Int64) * x1) + r6.toInt64) (x3 + (1 : Int32))))))

def L_X6_digest_63 (N : Nat) (t_theRing_size : Int32) (t_theRing_bits : Int64) (K : Int64 → Option (Int64)) : Nat → Int64 → Int32 → Option (Int64)
  | 0, _, _ => none
  | n + 1, x1, x3 => (if t_theRing_size ≤ x3 then (K x1) else (bd1 (f_X1_ballAt N x3 t_theRing_bits) (fun r10 => (L_X6_digest_63 N t_theRing_size t_theRing_bits K n (((31 : Int64) * x1) + r10.toInt64) (x3 + (1 : Int32))))))

def f_X6_digest (N : Nat)  (t_moves : Int32) (t_latestFinding : Int32) (t_theRow_boxes : (Nat → Int32)) (t_latestStrings_size : Int32) (t_theRing_size : Int32) (t_theRing_bits : Int64) : Option (Int64) :=
  (L_X6_digest_6 N t_moves t_latestFinding t_theRow_boxes t_latestStrings_size t_theRing_size t_theRing_bits (fun y4 => (L_X6_digest_32 N t_theRow_boxes (fun y8 => (L_X6_digest_63 N t_theRing_size t_theRing_bits (fun y12 => (some y12)) N y8 (0 : Int32))) N y4 (0 : Int32))) N (17 : Int64) (0 : Int32))

set_option maxHeartbeats 4000000 in
set_option maxRecDepth 100000 in
theorem c_X6_digest (l : Launch) (D : va_G) (cI cZ cJ cO : ClassId) (sz : Nat) (q_t q_t_theRow q_t_pairs q_t_latestStrings q_t_leapStrings q_t_theRing q_t_trial q_t_sheets q_t_theRow_boxes q_t_theRow_made q_t_latestStrings_lengths q_t_latestStrings_riggings q_t_latestStrings_lesserSums : Nat) (N : Nat)  (t_moves : Int32) (t_latestFinding : Int32) (t_theRow_boxes : (Nat → Int32)) (t_latestStrings_size : Int32) (t_latestStrings_boxesRead : Int32) (t_theRing_size : Int32) (t_theRing_bits : Int64) (t_theRing_made : Int64) (t_theRing_carrierHas : Int32) (r : Int64) (hf : f_X6_digest N t_moves t_latestFinding t_theRow_boxes t_latestStrings_size t_theRing_size t_theRing_bits = some r) : Met l yX6_digest wsX6_digest ({ frames := 2, cells := 0, slots := 0, locals := 43 }) (PreC D (TY cI cZ cJ cO) [.ref q_t] [(q_t, .inr (6, [.ref q_t_theRow, .ref q_t_pairs, .ref q_t_latestStrings, .ref q_t_leapStrings, .ref q_t_theRing, .ref q_t_trial, .ref q_t_sheets, .int t_moves, .int t_latestFinding])), (q_t_theRow, .inr (3, [.ref q_t_theRow_boxes, .ref q_t_theRow_made])), (q_t_theRow_boxes, .inl (cI, 240, .inl t_theRow_boxes)), (q_t_latestStrings, .inr (5, [.ref q_t_latestStrings_lengths, .ref q_t_latestStrings_riggings, .ref q_t_latestStrings_lesserSums, .int t_latestStrings_size, .int t_latestStrings_boxesRead])), (q_t_theRing, .inr (1, [.int t_theRing_size, .long t_theRing_bits, .long t_theRing_made, .int t_theRing_carrierHas]))] sz) (QcL D [(q_t, .inr (6, [.ref q_t_theRow, .ref q_t_pairs, .ref q_t_latestStrings, .ref q_t_leapStrings, .ref q_t_theRing, .ref q_t_trial, .ref q_t_sheets, .int t_moves, .int t_latestFinding])), (q_t_theRow, .inr (3, [.ref q_t_theRow_boxes, .ref q_t_theRow_made])), (q_t_theRow_boxes, .inl (cI, 240, .inl t_theRow_boxes)), (q_t_latestStrings, .inr (5, [.ref q_t_latestStrings_lengths, .ref q_t_latestStrings_riggings, .ref q_t_latestStrings_lesserSums, .int t_latestStrings_size, .int t_latestStrings_boxesRead])), (q_t_theRing, .inr (1, [.int t_theRing_size, .long t_theRing_bits, .long t_theRing_made, .int t_theRing_carrierHas]))] (va_A [(q_t, .inr (6, [.ref q_t_theRow, .ref q_t_pairs, .ref q_t_latestStrings, .ref q_t_leapStrings, .ref q_t_theRing, .ref q_t_trial, .ref q_t_sheets, .int t_moves, .int t_latestFinding])), (q_t_theRow, .inr (3, [.ref q_t_theRow_boxes, .ref q_t_theRow_made])), (q_t_theRow_boxes, .inl (cI, 240, .inl t_theRow_boxes)), (q_t_latestStrings, .inr (5, [.ref q_t_latestStrings_lengths, .ref q_t_latestStrings_riggings, .ref q_t_latestStrings_lesserSums, .int t_latestStrings_size, .int t_latestStrings_boxesRead])), (q_t_theRing, .inr (1, [.int t_theRing_size, .long t_theRing_bits, .long t_theRing_made, .int t_theRing_carrierHas]))] sz) r) 0 0 (va_A [(q_t, .inr (6, [.ref q_t_theRow, .ref q_t_pairs, .ref q_t_latestStrings, .ref q_t_leapStrings, .ref q_t_theRing, .ref q_t_trial, .ref q_t_sheets, .int t_moves, .int t_latestFinding])), (q_t_theRow, .inr (3, [.ref q_t_theRow_boxes, .ref q_t_theRow_made])), (q_t_theRow_boxes, .inl (cI, 240, .inl t_theRow_boxes)), (q_t_latestStrings, .inr (5, [.ref q_t_latestStrings_lengths, .ref q_t_latestStrings_riggings, .ref q_t_latestStrings_lesserSums, .int t_latestStrings_size, .int t_latestStrings_boxesRead])), (q_t_theRing, .inr (1, [.int t_theRing_size, .long t_theRing_bits, .long t_theRing_made, .int t_theRing_carrierHas]))] sz) := by
  refine ctr (cc := cX6_digest) (maxL := 4) (ret := (some .long)) (by decide) rfl (Nat.le_of_ble_eq_true rfl) ?_
  intro p e s m below meth c S hr hlk hnm hK hN hsz hA hw ls hl
  generalize va_A [(q_t, .inr (6, [.ref q_t_theRow, .ref q_t_pairs, .ref q_t_latestStrings, .ref q_t_leapStrings, .ref q_t_theRing, .ref q_t_trial, .ref q_t_sheets, .int t_moves, .int t_latestFinding])), (q_t_theRow, .inr (3, [.ref q_t_theRow_boxes, .ref q_t_theRow_made])), (q_t_theRow_boxes, .inl (cI, 240, .inl t_theRow_boxes)), (q_t_latestStrings, .inr (5, [.ref q_t_latestStrings_lengths, .ref q_t_latestStrings_riggings, .ref q_t_latestStrings_lesserSums, .int t_latestStrings_size, .int t_latestStrings_boxesRead])), (q_t_theRing, .inr (1, [.int t_theRing_size, .long t_theRing_bits, .long t_theRing_made, .int t_theRing_carrierHas]))] sz = A at hA hw ⊢
  have S : CallFix p m c cX6_digest 4 s ([.ref q_t] : List Value).toArray wsX6_digest RX6 := S
  have hx := S.1
  have hb := S.2.1
  have hts := S.2.2.2.2
  have hl : lv_has ls 4 [(0, .ref q_t)] := hl
  have hinX1 : ∀ w ∈ u_ws RX1 TX1 4, w ∈ wsX6_digest := by decide +kernel
  have hinX6 : ∀ w ∈ u_ws RX6 TX6 9, w ∈ wsX6_digest := by decide +kernel
  have k10 : Cond.fieldLink RX6 10 "BallBoxes" "theRow" "LBallBoxes$Row;" ∈ wsX6_digest := by decide +kernel
  have k36 : Cond.fieldLink RX6 36 "BallBoxes" "theRing" "LBallBoxes$Ring;" ∈ wsX6_digest := by decide +kernel
  have Lp6 : ∀  (K : Int64 → Option (Int64)), (∀ (z1 : Int64) (H : Heap) (locs : List Loc) (ls : Array Slot), Wd D A s.heap [(q_t, .inr (6, [.ref q_t_theRow, .ref q_t_pairs, .ref q_t_latestStrings, .ref q_t_leapStrings, .ref q_t_theRing, .ref q_t_trial, .ref q_t_sheets, .int t_moves, .int t_latestFinding])), (q_t_theRow, .inr (3, [.ref q_t_theRow_boxes, .ref q_t_theRow_made])), (q_t_theRow_boxes, .inl (cI, 240, .inl t_theRow_boxes)), (q_t_latestStrings, .inr (5, [.ref q_t_latestStrings_lengths, .ref q_t_latestStrings_riggings, .ref q_t_latestStrings_lesserSums, .int t_latestStrings_size, .int t_latestStrings_boxesRead])), (q_t_theRing, .inr (1, [.int t_theRing_size, .long t_theRing_bits, .long t_theRing_made, .int t_theRing_carrierHas]))] H locs → lv_has ls 4 [(0, .ref q_t), (1, .long z1)] → K z1 = some r → W p l e ({ frames := 2, cells := 0, slots := 0, locals := 43 } : Room) s m ([.ref q_t] : List Value).toArray below meth c H locs 0 0 (MQ below (QcL D [(q_t, .inr (6, [.ref q_t_theRow, .ref q_t_pairs, .ref q_t_latestStrings, .ref q_t_leapStrings, .ref q_t_theRing, .ref q_t_trial, .ref q_t_sheets, .int t_moves, .int t_latestFinding])), (q_t_theRow, .inr (3, [.ref q_t_theRow_boxes, .ref q_t_theRow_made])), (q_t_theRow_boxes, .inl (cI, 240, .inl t_theRow_boxes)), (q_t_latestStrings, .inr (5, [.ref q_t_latestStrings_lengths, .ref q_t_latestStrings_riggings, .ref q_t_latestStrings_lesserSums, .int t_latestStrings_size, .int t_latestStrings_boxesRead])), (q_t_theRing, .inr (1, [.int t_theRing_size, .long t_theRing_bits, .long t_theRing_made, .int t_theRing_carrierHas]))] A r) ([.ref q_t] : List Value).toArray s 0 0 A) (F0 m 30 ls [])) → ∀ (n : Nat) (x1 : Int64) (x3 : Int32) (H : Heap) (locs : List Loc) (ls : Array Slot), Wd D A s.heap [(q_t, .inr (6, [.ref q_t_theRow, .ref q_t_pairs, .ref q_t_latestStrings, .ref q_t_leapStrings, .ref q_t_theRing, .ref q_t_trial, .ref q_t_sheets, .int t_moves, .int t_latestFinding])), (q_t_theRow, .inr (3, [.ref q_t_theRow_boxes, .ref q_t_theRow_made])), (q_t_theRow_boxes, .inl (cI, 240, .inl t_theRow_boxes)), (q_t_latestStrings, .inr (5, [.ref q_t_latestStrings_lengths, .ref q_t_latestStrings_riggings, .ref q_t_latestStrings_lesserSums, .int t_latestStrings_size, .int t_latestStrings_boxesRead])), (q_t_theRing, .inr (1, [.int t_theRing_size, .long t_theRing_bits, .long t_theRing_made, .int t_theRing_carrierHas]))] H locs → lv_has ls 4 [(0, .ref q_t), (1, .long x1), (3, .int x3)] → L_X6_digest_6 N t_moves t_latestFinding t_theRow_boxes t_latestStrings_size t_theRing_size t_theRing_bits K n x1 x3 = some r → W p l e ({ frames := 2, cells := 0, slots := 0, locals := 43 } : Room) s m ([.ref q_t] : List Value).toArray below meth c H locs 0 0 (MQ below (QcL D [(q_t, .inr (6, [.ref q_t_theRow, .ref q_t_pairs, .ref q_t_latestStrings, .ref q_t_leapStrings, .ref q_t_theRing, .ref q_t_trial, .ref q_t_sheets, .int t_moves, .int t_latestFinding])), (q_t_theRow, .inr (3, [.ref q_t_theRow_boxes, .ref q_t_theRow_made])), (q_t_theRow_boxes, .inl (cI, 240, .inl t_theRow_boxes)), (q_t_latestStrings, .inr (5, [.ref q_t_latestStrings_lengths, .ref q_t_latestStrings_riggings, .ref q_t_latestStrings_lesserSums, .int t_latestStrings_size, .int t_latestStrings_boxesRead])), (q_t_theRing, .inr (1, [.int t_theRing_size, .long t_theRing_bits, .long t_theRing_made, .int t_theRing_carrierHas]))] A r) ([.ref q_t] : List Value).toArray s 0 0 A) (F0 m 6 ls []) := by
    intro  K hKx n
    induction n with
    | zero =>
      intro x1 x3 H locs ls hw hl hf
      rw [L_X6_digest_6] at hf
      cases hf
    | succ n ih =>
      intro x1 x3 H locs ls hw hl hf
      rw [L_X6_digest_6] at hf
      refine lv_iload_n hx hb dX6_digest_6 rfl (lv_at hl 2 rfl) ?_
      refine lv_iconst (v := (4 : Int32)) hx hb dX6_digest_7 (by decide) ?_
      refine lv_icmp_gt (tgt := 30) hx hb dX6_digest_8 (by decide) (fun c1 => ?_) (fun c1 => ?_)
      · have hf := (if_pos c1).symm.trans hf
        exact hKx x1 _ _ _ hw (lv_sub hl [0, 1] rfl) hf
      · have hf := (if_neg c1).symm.trans hf
        refine lv_ldc2 (v := (31 : Int64)) hx hb S.2.2.2.1 (hts (.constantLong RX6 232 (31)) (by decide +kernel)) dX6_digest_11 ?_
        refine lv_lload_n hx hb dX6_digest_14 rfl (lv_at hl 1 rfl) ?_
        refine lv_lmul hx hb dX6_digest_15 ?_
        refine lv_aload_n hx hb dX6_digest_16 rfl (lv_at hl 0 rfl) ?_
        refine lv_iload_n hx hb dX6_digest_17 rfl (lv_at hl 2 rfl) ?_
        obtain ⟨r2, h3, hf⟩ := bd1_some hf
        refine cl_i (wr := []) (ws' := [(q_t, .inr (6, [.ref q_t_theRow, .ref q_t_pairs, .ref q_t_latestStrings, .ref q_t_leapStrings, .ref q_t_theRing, .ref q_t_trial, .ref q_t_sheets, .int t_moves, .int t_latestFinding])), (q_t_theRow, .inr (3, [.ref q_t_theRow_boxes, .ref q_t_theRow_made])), (q_t_theRow_boxes, .inl (cI, 240, .inl t_theRow_boxes)), (q_t_latestStrings, .inr (5, [.ref q_t_latestStrings_lengths, .ref q_t_latestStrings_riggings, .ref q_t_latestStrings_lesserSums, .int t_latestStrings_size, .int t_latestStrings_boxesRead])), (q_t_theRing, .inr (1, [.int t_theRing_size, .long t_theRing_bits, .long t_theRing_made, .int t_theRing_carrierHas]))]) hA hw [0, 1, 2, 3, 4] [] [0, 1, 2, 3, 4] rfl rfl rfl (by decide) rfl rfl (va_runV (As := [.int x3]) (rest := [.long ((31 : Int64) * x1)]) S (c_X6_count l D cI cZ cJ cO _ q_t q_t_theRow q_t_pairs q_t_latestStrings q_t_leapStrings q_t_theRing q_t_trial q_t_sheets q_t_theRow_boxes q_t_theRow_made q_t_latestStrings_lengths q_t_latestStrings_riggings q_t_latestStrings_lesserSums N x3 t_moves t_latestFinding t_theRow_boxes t_latestStrings_size t_latestStrings_boxesRead t_theRing_size t_theRing_bits t_theRing_made t_theRing_carrierHas r2 h3) (cwV 1 hts gX6_digest_X6_count rfl rfl rfl (by decide +kernel) ⟨Nat.le_of_ble_eq_true rfl, Nat.le_of_ble_eq_true rfl⟩) (pre_V hK hN hw [0, 1, 2, 3, 4] rfl rfl (C := RX6) (T := TX6) (N := 9) (ci := 6) (q0 := 0) rfl rfl) rfl rfl hl.1 rfl (lv_room (Nat.le_of_ble_eq_true rfl)) dX6_digest_18 ⟨Nat.zero_le _, Nat.zero_le _⟩) (fun H locs hw => ?_)
        refine lv_i2l (v := r2.toInt64) hx hb dX6_digest_21 rfl ?_
        refine lv_ladd hx hb dX6_digest_22 ?_
        refine lv_lstore_n (lv' := [(1, .long (((31 : Int64) * x1) + r2.toInt64)), (0, .ref q_t), (3, .int x3)]) hx hb dX6_digest_23 rfl hl (by decide) rfl (fun ls hl => ?_)
        refine lv_iinc (v := (x3 + (1 : Int32))) (lv' := [(3, .int (x3 + (1 : Int32))), (1, .long (((31 : Int64) * x1) + r2.toInt64)), (0, .ref q_t)]) hx hb dX6_digest_24 hl (k := 2) rfl rfl (by decide) rfl (fun ls hl => ?_)
        refine lv_goto (tgt := 6) hx hb dX6_digest_27 (by decide) ?_
        exact ih (((31 : Int64) * x1) + r2.toInt64) (x3 + (1 : Int32)) _ _ _ hw (lv_sub hl [2, 1, 0] rfl) hf
  have Lp32 : ∀  (K : Int64 → Option (Int64)), (∀ (z1 : Int64) (H : Heap) (locs : List Loc) (ls : Array Slot), Wd D A s.heap [(q_t, .inr (6, [.ref q_t_theRow, .ref q_t_pairs, .ref q_t_latestStrings, .ref q_t_leapStrings, .ref q_t_theRing, .ref q_t_trial, .ref q_t_sheets, .int t_moves, .int t_latestFinding])), (q_t_theRow, .inr (3, [.ref q_t_theRow_boxes, .ref q_t_theRow_made])), (q_t_theRow_boxes, .inl (cI, 240, .inl t_theRow_boxes)), (q_t_latestStrings, .inr (5, [.ref q_t_latestStrings_lengths, .ref q_t_latestStrings_riggings, .ref q_t_latestStrings_lesserSums, .int t_latestStrings_size, .int t_latestStrings_boxesRead])), (q_t_theRing, .inr (1, [.int t_theRing_size, .long t_theRing_bits, .long t_theRing_made, .int t_theRing_carrierHas]))] H locs → lv_has ls 4 [(0, .ref q_t), (1, .long z1)] → K z1 = some r → W p l e ({ frames := 2, cells := 0, slots := 0, locals := 43 } : Room) s m ([.ref q_t] : List Value).toArray below meth c H locs 0 0 (MQ below (QcL D [(q_t, .inr (6, [.ref q_t_theRow, .ref q_t_pairs, .ref q_t_latestStrings, .ref q_t_leapStrings, .ref q_t_theRing, .ref q_t_trial, .ref q_t_sheets, .int t_moves, .int t_latestFinding])), (q_t_theRow, .inr (3, [.ref q_t_theRow_boxes, .ref q_t_theRow_made])), (q_t_theRow_boxes, .inl (cI, 240, .inl t_theRow_boxes)), (q_t_latestStrings, .inr (5, [.ref q_t_latestStrings_lengths, .ref q_t_latestStrings_riggings, .ref q_t_latestStrings_lesserSums, .int t_latestStrings_size, .int t_latestStrings_boxesRead])), (q_t_theRing, .inr (1, [.int t_theRing_size, .long t_theRing_bits, .long t_theRing_made, .int t_theRing_carrierHas]))] A r) ([.ref q_t] : List Value).toArray s 0 0 A) (F0 m 61 ls [])) → ∀ (n : Nat) (x1 : Int64) (x3 : Int32) (H : Heap) (locs : List Loc) (ls : Array Slot), Wd D A s.heap [(q_t, .inr (6, [.ref q_t_theRow, .ref q_t_pairs, .ref q_t_latestStrings, .ref q_t_leapStrings, .ref q_t_theRing, .ref q_t_trial, .ref q_t_sheets, .int t_moves, .int t_latestFinding])), (q_t_theRow, .inr (3, [.ref q_t_theRow_boxes, .ref q_t_theRow_made])), (q_t_theRow_boxes, .inl (cI, 240, .inl t_theRow_boxes)), (q_t_latestStrings, .inr (5, [.ref q_t_latestStrings_lengths, .ref q_t_latestStrings_riggings, .ref q_t_latestStrings_lesserSums, .int t_latestStrings_size, .int t_latestStrings_boxesRead])), (q_t_theRing, .inr (1, [.int t_theRing_size, .long t_theRing_bits, .long t_theRing_made, .int t_theRing_carrierHas]))] H locs → lv_has ls 4 [(0, .ref q_t), (1, .long x1), (3, .int x3)] → L_X6_digest_32 N t_theRow_boxes K n x1 x3 = some r → W p l e ({ frames := 2, cells := 0, slots := 0, locals := 43 } : Room) s m ([.ref q_t] : List Value).toArray below meth c H locs 0 0 (MQ below (QcL D [(q_t, .inr (6, [.ref q_t_theRow, .ref q_t_pairs, .ref q_t_latestStrings, .ref q_t_leapStrings, .ref q_t_theRing, .ref q_t_trial, .ref q_t_sheets, .int t_moves, .int t_latestFinding])), (q_t_theRow, .inr (3, [.ref q_t_theRow_boxes, .ref q_t_theRow_made])), (q_t_theRow_boxes, .inl (cI, 240, .inl t_theRow_boxes)), (q_t_latestStrings, .inr (5, [.ref q_t_latestStrings_lengths, .ref q_t_latestStrings_riggings, .ref q_t_latestStrings_lesserSums, .int t_latestStrings_size, .int t_latestStrings_boxesRead])), (q_t_theRing, .inr (1, [.int t_theRing_size, .long t_theRing_bits, .long t_theRing_made, .int t_theRing_carrierHas]))] A r) ([.ref q_t] : List Value).toArray s 0 0 A) (F0 m 32 ls []) := by
    intro  K hKx n
    induction n with
    | zero =>
      intro x1 x3 H locs ls hw hl hf
      rw [L_X6_digest_32] at hf
      cases hf
    | succ n ih =>
      intro x1 x3 H locs ls hw hl hf
      rw [L_X6_digest_32] at hf
      refine lv_iload_n hx hb dX6_digest_32 rfl (lv_at hl 2 rfl) ?_
      refine lv_sipush (v := (240 : Int32)) hx hb dX6_digest_33 (by decide) ?_
      refine lv_icmp_ge (tgt := 61) hx hb dX6_digest_36 (by decide) (fun c5 => ?_) (fun c5 => ?_)
      · have hf := (if_pos c5).symm.trans hf
        exact hKx x1 _ _ _ hw (lv_sub hl [0, 1] rfl) hf
      · have hf := (if_neg c5).symm.trans hf
        refine lv_ldc2 (v := (31 : Int64)) hx hb S.2.2.2.1 (hts (.constantLong RX6 232 (31)) (by decide +kernel)) dX6_digest_39 ?_
        refine lv_lload_n hx hb dX6_digest_42 rfl (lv_at hl 1 rfl) ?_
        refine lv_lmul hx hb dX6_digest_43 ?_
        refine lv_aload_n hx hb dX6_digest_44 rfl (lv_at hl 0 rfl) ?_
        refine g_get (ci := 6) (C := RX6) (T := TX6) (N := 9) S hinX6 hK hw 0 0 k10 dX6_digest_45 rfl rfl (by decide) rfl ?_
        refine lv_iload_n hx hb dX6_digest_48 rfl (lv_at hl 2 rfl) ?_
        obtain ⟨r6, h7, hf⟩ := bd1_some hf
        refine cl_i (wr := [(q_t, .inr (6, [.ref q_t_theRow, .ref q_t_pairs, .ref q_t_latestStrings, .ref q_t_leapStrings, .ref q_t_theRing, .ref q_t_trial, .ref q_t_sheets, .int t_moves, .int t_latestFinding])), (q_t_latestStrings, .inr (5, [.ref q_t_latestStrings_lengths, .ref q_t_latestStrings_riggings, .ref q_t_latestStrings_lesserSums, .int t_latestStrings_size, .int t_latestStrings_boxesRead])), (q_t_theRing, .inr (1, [.int t_theRing_size, .long t_theRing_bits, .long t_theRing_made, .int t_theRing_carrierHas]))]) (ws' := [(q_t, .inr (6, [.ref q_t_theRow, .ref q_t_pairs, .ref q_t_latestStrings, .ref q_t_leapStrings, .ref q_t_theRing, .ref q_t_trial, .ref q_t_sheets, .int t_moves, .int t_latestFinding])), (q_t_theRow, .inr (3, [.ref q_t_theRow_boxes, .ref q_t_theRow_made])), (q_t_theRow_boxes, .inl (cI, 240, .inl t_theRow_boxes)), (q_t_latestStrings, .inr (5, [.ref q_t_latestStrings_lengths, .ref q_t_latestStrings_riggings, .ref q_t_latestStrings_lesserSums, .int t_latestStrings_size, .int t_latestStrings_boxesRead])), (q_t_theRing, .inr (1, [.int t_theRing_size, .long t_theRing_bits, .long t_theRing_made, .int t_theRing_carrierHas]))]) hA hw [1, 2] [0, 3, 4] [0, 3, 4, 1, 2] rfl rfl rfl (by decide) rfl rfl (va_runV (As := [.int x3]) (rest := [.long ((31 : Int64) * x1)]) S (c_X3_ballAt l D cI cZ cJ cO _ q_t_theRow q_t_theRow_boxes q_t_theRow_made N x3 t_theRow_boxes r6 h7) (cwV 1 hts gX6_digest_X3_ballAt rfl rfl rfl (by decide +kernel) ⟨Nat.le_of_ble_eq_true rfl, Nat.le_of_ble_eq_true rfl⟩) (pre_V hK hN hw [1, 2] rfl rfl (C := RX3) (T := TX3) (N := 2) (ci := 3) (q0 := 0) rfl rfl) rfl rfl hl.1 rfl (lv_room (Nat.le_of_ble_eq_true rfl)) dX6_digest_49 ⟨Nat.zero_le _, Nat.zero_le _⟩) (fun H locs hw => ?_)
        refine lv_i2l (v := r6.toInt64) hx hb dX6_digest_52 rfl ?_
        refine lv_ladd hx hb dX6_digest_53 ?_
        refine lv_lstore_n (lv' := [(1, .long (((31 : Int64) * x1) + r6.toInt64)), (0, .ref q_t), (3, .int x3)]) hx hb dX6_digest_54 rfl hl (by decide) rfl (fun ls hl => ?_)
        refine lv_iinc (v := (x3 + (1 : Int32))) (lv' := [(3, .int (x3 + (1 : Int32))), (1, .long (((31 : Int64) * x1) + r6.toInt64)), (0, .ref q_t)]) hx hb dX6_digest_55 hl (k := 2) rfl rfl (by decide) rfl (fun ls hl => ?_)
        refine lv_goto (tgt := 32) hx hb dX6_digest_58 (by decide) ?_
        exact ih (((31 : Int64) * x1) + r6.toInt64) (x3 + (1 : Int32)) _ _ _ hw (lv_sub hl [2, 1, 0] rfl) hf
  have Lp63 : ∀  (K : Int64 → Option (Int64)), (∀ (z1 : Int64) (H : Heap) (locs : List Loc) (ls : Array Slot), Wd D A s.heap [(q_t, .inr (6, [.ref q_t_theRow, .ref q_t_pairs, .ref q_t_latestStrings, .ref q_t_leapStrings, .ref q_t_theRing, .ref q_t_trial, .ref q_t_sheets, .int t_moves, .int t_latestFinding])), (q_t_theRow, .inr (3, [.ref q_t_theRow_boxes, .ref q_t_theRow_made])), (q_t_theRow_boxes, .inl (cI, 240, .inl t_theRow_boxes)), (q_t_latestStrings, .inr (5, [.ref q_t_latestStrings_lengths, .ref q_t_latestStrings_riggings, .ref q_t_latestStrings_lesserSums, .int t_latestStrings_size, .int t_latestStrings_boxesRead])), (q_t_theRing, .inr (1, [.int t_theRing_size, .long t_theRing_bits, .long t_theRing_made, .int t_theRing_carrierHas]))] H locs → lv_has ls 4 [(1, .long z1)] → K z1 = some r → W p l e ({ frames := 2, cells := 0, slots := 0, locals := 43 } : Room) s m ([.ref q_t] : List Value).toArray below meth c H locs 0 0 (MQ below (QcL D [(q_t, .inr (6, [.ref q_t_theRow, .ref q_t_pairs, .ref q_t_latestStrings, .ref q_t_leapStrings, .ref q_t_theRing, .ref q_t_trial, .ref q_t_sheets, .int t_moves, .int t_latestFinding])), (q_t_theRow, .inr (3, [.ref q_t_theRow_boxes, .ref q_t_theRow_made])), (q_t_theRow_boxes, .inl (cI, 240, .inl t_theRow_boxes)), (q_t_latestStrings, .inr (5, [.ref q_t_latestStrings_lengths, .ref q_t_latestStrings_riggings, .ref q_t_latestStrings_lesserSums, .int t_latestStrings_size, .int t_latestStrings_boxesRead])), (q_t_theRing, .inr (1, [.int t_theRing_size, .long t_theRing_bits, .long t_theRing_made, .int t_theRing_carrierHas]))] A r) ([.ref q_t] : List Value).toArray s 0 0 A) (F0 m 96 ls [])) → ∀ (n : Nat) (x1 : Int64) (x3 : Int32) (H : Heap) (locs : List Loc) (ls : Array Slot), Wd D A s.heap [(q_t, .inr (6, [.ref q_t_theRow, .ref q_t_pairs, .ref q_t_latestStrings, .ref q_t_leapStrings, .ref q_t_theRing, .ref q_t_trial, .ref q_t_sheets, .int t_moves, .int t_latestFinding])), (q_t_theRow, .inr (3, [.ref q_t_theRow_boxes, .ref q_t_theRow_made])), (q_t_theRow_boxes, .inl (cI, 240, .inl t_theRow_boxes)), (q_t_latestStrings, .inr (5, [.ref q_t_latestStrings_lengths, .ref q_t_latestStrings_riggings, .ref q_t_latestStrings_lesserSums, .int t_latestStrings_size, .int t_latestStrings_boxesRead])), (q_t_theRing, .inr (1, [.int t_theRing_size, .long t_theRing_bits, .long t_theRing_made, .int t_theRing_carrierHas]))] H locs → lv_has ls 4 [(0, .ref q_t), (1, .long x1), (3, .int x3)] → L_X6_digest_63 N t_theRing_size t_theRing_bits K n x1 x3 = some r → W p l e ({ frames := 2, cells := 0, slots := 0, locals := 43 } : Room) s m ([.ref q_t] : List Value).toArray below meth c H locs 0 0 (MQ below (QcL D [(q_t, .inr (6, [.ref q_t_theRow, .ref q_t_pairs, .ref q_t_latestStrings, .ref q_t_leapStrings, .ref q_t_theRing, .ref q_t_trial, .ref q_t_sheets, .int t_moves, .int t_latestFinding])), (q_t_theRow, .inr (3, [.ref q_t_theRow_boxes, .ref q_t_theRow_made])), (q_t_theRow_boxes, .inl (cI, 240, .inl t_theRow_boxes)), (q_t_latestStrings, .inr (5, [.ref q_t_latestStrings_lengths, .ref q_t_latestStrings_riggings, .ref q_t_latestStrings_lesserSums, .int t_latestStrings_size, .int t_latestStrings_boxesRead])), (q_t_theRing, .inr (1, [.int t_theRing_size, .long t_theRing_bits, .long t_theRing_made, .int t_theRing_carrierHas]))] A r) ([.ref q_t] : List Value).toArray s 0 0 A) (F0 m 63 ls []) := by
    intro  K hKx n
    induction n with
    | zero =>
      intro x1 x3 H locs ls hw hl hf
      rw [L_X6_digest_63] at hf
      cases hf
    | succ n ih =>
      intro x1 x3 H locs ls hw hl hf
      rw [L_X6_digest_63] at hf
      refine lv_iload_n hx hb dX6_digest_63 rfl (lv_at hl 2 rfl) ?_
      refine lv_aload_n hx hb dX6_digest_64 rfl (lv_at hl 0 rfl) ?_
      refine g_get (ci := 6) (C := RX6) (T := TX6) (N := 9) S hinX6 hK hw 0 4 k36 dX6_digest_65 rfl rfl (by decide) rfl ?_
      refine g_getN (ci := 1) (C := RX1) (T := TX1) (N := 4) S hinX1 hK hN hw 4 0 nw_X6_223 dX6_digest_68 rfl rfl (by decide) rfl ?_
      refine lv_icmp_ge (tgt := 96) hx hb dX6_digest_71 (by decide) (fun c9 => ?_) (fun c9 => ?_)
      · have hf := (if_pos c9).symm.trans hf
        exact hKx x1 _ _ _ hw (lv_sub hl [1] rfl) hf
      · have hf := (if_neg c9).symm.trans hf
        refine lv_ldc2 (v := (31 : Int64)) hx hb S.2.2.2.1 (hts (.constantLong RX6 232 (31)) (by decide +kernel)) dX6_digest_74 ?_
        refine lv_lload_n hx hb dX6_digest_77 rfl (lv_at hl 1 rfl) ?_
        refine lv_lmul hx hb dX6_digest_78 ?_
        refine lv_aload_n hx hb dX6_digest_79 rfl (lv_at hl 0 rfl) ?_
        refine g_get (ci := 6) (C := RX6) (T := TX6) (N := 9) S hinX6 hK hw 0 4 k36 dX6_digest_80 rfl rfl (by decide) rfl ?_
        refine lv_iload_n hx hb dX6_digest_83 rfl (lv_at hl 2 rfl) ?_
        obtain ⟨r10, h11, hf⟩ := bd1_some hf
        refine cl_i (wr := [(q_t, .inr (6, [.ref q_t_theRow, .ref q_t_pairs, .ref q_t_latestStrings, .ref q_t_leapStrings, .ref q_t_theRing, .ref q_t_trial, .ref q_t_sheets, .int t_moves, .int t_latestFinding])), (q_t_theRow, .inr (3, [.ref q_t_theRow_boxes, .ref q_t_theRow_made])), (q_t_theRow_boxes, .inl (cI, 240, .inl t_theRow_boxes)), (q_t_latestStrings, .inr (5, [.ref q_t_latestStrings_lengths, .ref q_t_latestStrings_riggings, .ref q_t_latestStrings_lesserSums, .int t_latestStrings_size, .int t_latestStrings_boxesRead]))]) (ws' := [(q_t, .inr (6, [.ref q_t_theRow, .ref q_t_pairs, .ref q_t_latestStrings, .ref q_t_leapStrings, .ref q_t_theRing, .ref q_t_trial, .ref q_t_sheets, .int t_moves, .int t_latestFinding])), (q_t_theRow, .inr (3, [.ref q_t_theRow_boxes, .ref q_t_theRow_made])), (q_t_theRow_boxes, .inl (cI, 240, .inl t_theRow_boxes)), (q_t_latestStrings, .inr (5, [.ref q_t_latestStrings_lengths, .ref q_t_latestStrings_riggings, .ref q_t_latestStrings_lesserSums, .int t_latestStrings_size, .int t_latestStrings_boxesRead])), (q_t_theRing, .inr (1, [.int t_theRing_size, .long t_theRing_bits, .long t_theRing_made, .int t_theRing_carrierHas]))]) hA hw [4] [0, 1, 2, 3] [0, 1, 2, 3, 4] rfl rfl rfl (by decide) rfl rfl (va_runV (As := [.int x3]) (rest := [.long ((31 : Int64) * x1)]) S (c_X1_ballAt l D cI cZ cJ cO _ q_t_theRing N x3 t_theRing_size t_theRing_bits t_theRing_made t_theRing_carrierHas r10 h11) (cwV 1 hts gX6_digest_X1_ballAt rfl rfl rfl (by decide +kernel) ⟨Nat.le_of_ble_eq_true rfl, Nat.le_of_ble_eq_true rfl⟩) (pre_V hK hN hw [4] rfl rfl (C := RX1) (T := TX1) (N := 4) (ci := 1) (q0 := 0) rfl rfl) rfl rfl hl.1 rfl (lv_room (Nat.le_of_ble_eq_true rfl)) dX6_digest_84 ⟨Nat.zero_le _, Nat.zero_le _⟩) (fun H locs hw => ?_)
        refine lv_i2l (v := r10.toInt64) hx hb dX6_digest_87 rfl ?_
        refine lv_ladd hx hb dX6_digest_88 ?_
        refine lv_lstore_n (lv' := [(1, .long (((31 : Int64) * x1) + r10.toInt64)), (0, .ref q_t), (3, .int x3)]) hx hb dX6_digest_89 rfl hl (by decide) rfl (fun ls hl => ?_)
        refine lv_iinc (v := (x3 + (1 : Int32))) (lv' := [(3, .int (x3 + (1 : Int32))), (1, .long (((31 : Int64) * x1) + r10.toInt64)), (0, .ref q_t)]) hx hb dX6_digest_90 hl (k := 2) rfl rfl (by decide) rfl (fun ls hl => ?_)
        refine lv_goto (tgt := 63) hx hb dX6_digest_93 (by decide) ?_
        exact ih (((31 : Int64) * x1) + r10.toInt64) (x3 + (1 : Int32)) _ _ _ hw (lv_sub hl [2, 1, 0] rfl) hf
  unfold f_X6_digest at hf
  refine lv_ldc2 (v := (17 : Int64)) hx hb S.2.2.2.1 (hts (.constantLong RX6 230 (17)) (by decide +kernel)) dX6_digest_0 ?_
  refine lv_lstore_n (lv' := [(1, .long (17 : Int64)), (0, .ref q_t)]) hx hb dX6_digest_3 rfl hl (by decide) rfl (fun ls hl => ?_)
  refine lv_iconst (v := (0 : Int32)) hx hb dX6_digest_4 (by decide) ?_
  refine lv_istore_n (lv' := [(3, .int (0 : Int32)), (1, .long (17 : Int64)), (0, .ref q_t)]) hx hb dX6_digest_5 rfl hl (by decide) rfl (fun ls hl => ?_)
  refine Lp6  _ (fun y4 H locs ls hw hl hf => ?_) N (17 : Int64) (0 : Int32) _ _ _ hw (lv_sub hl [2, 1, 0] rfl) hf
  refine lv_iconst (v := (0 : Int32)) hx hb dX6_digest_30 (by decide) ?_
  refine lv_istore_n (lv' := [(3, .int (0 : Int32)), (0, .ref q_t), (1, .long y4)]) hx hb dX6_digest_31 rfl hl (by decide) rfl (fun ls hl => ?_)
  refine Lp32  _ (fun y8 H locs ls hw hl hf => ?_) N y4 (0 : Int32) _ _ _ hw (lv_sub hl [1, 2, 0] rfl) hf
  refine lv_iconst (v := (0 : Int32)) hx hb dX6_digest_61 (by decide) ?_
  refine lv_istore_n (lv' := [(3, .int (0 : Int32)), (0, .ref q_t), (1, .long y8)]) hx hb dX6_digest_62 rfl hl (by decide) rfl (fun ls hl => ?_)
  refine Lp63  _ (fun y12 H locs ls hw hl hf => ?_) N y8 (0 : Int32) _ _ _ hw (lv_sub hl [1, 2, 0] rfl) hf
  refine lv_lload_n hx hb dX6_digest_96 rfl (lv_at hl 0 rfl) ?_
  obtain rfl := Option.some.inj hf
  exact rt_l S hr hlk hw dX6_digest_97

def f_X7_in (_ : Nat) (p0 : Int32) (p1 : Int32) (p2 : Int32)  : Option (Int32) :=
  (if p0 < p1 then (some (0 : Int32)) else (if p2 < p0 then (some (0 : Int32)) else (some (1 : Int32))))

set_option maxHeartbeats 4000000 in
set_option maxRecDepth 100000 in
theorem c_X7_in (l : Launch) (D : va_G) (cI cZ cJ cO : ClassId) (sz : Nat) (N : Nat) (p0 : Int32) (p1 : Int32) (p2 : Int32)  (r : Int32) (hf : f_X7_in N p0 p1 p2 = some r) : Met l yX7_in wsX7_in ({ frames := 0, cells := 0, slots := 0, locals := 0 }) (PreC D (TY cI cZ cJ cO) [.int p0, .int p1, .int p2] [] sz) (QcI D [] (va_A [] sz) r) 0 0 (va_A [] sz) := by
  refine ctr (cc := cX7_in) (maxL := 3) (ret := (some .boolean)) (by decide) rfl (Nat.le_of_ble_eq_true rfl) ?_
  intro p e s m below meth c S hr hlk hnm hK hN hsz hA hw ls hl
  generalize va_A [] sz = A at hA hw ⊢
  have S : CallFix p m c cX7_in 3 s ([.int p0, .int p1, .int p2] : List Value).toArray wsX7_in RX7 := S
  have hx := S.1
  have hb := S.2.1
  have hts := S.2.2.2.2
  have hl : lv_has ls 3 [(0, .int p0), (1, .int p1), (2, .int p2)] := hl
  unfold f_X7_in at hf
  refine lv_iload_n hx hb dX7_in_0 rfl (lv_at hl 0 rfl) ?_
  refine lv_iload_n hx hb dX7_in_1 rfl (lv_at hl 1 rfl) ?_
  refine lv_icmp_lt (tgt := 14) hx hb dX7_in_2 (by decide) (fun c1 => ?_) (fun c1 => ?_)
  · have hf := (if_pos c1).symm.trans hf
    refine lv_iconst (v := (0 : Int32)) hx hb dX7_in_14 (by decide) ?_
    obtain rfl := Option.some.inj hf
    exact rt_z S hr hlk hw dX7_in_15 rfl
  · have hf := (if_neg c1).symm.trans hf
    refine lv_iload_n hx hb dX7_in_5 rfl (lv_at hl 0 rfl) ?_
    refine lv_iload_n hx hb dX7_in_6 rfl (lv_at hl 2 rfl) ?_
    refine lv_icmp_gt (tgt := 14) hx hb dX7_in_7 (by decide) (fun c2 => ?_) (fun c2 => ?_)
    · have hf := (if_pos c2).symm.trans hf
      refine lv_iconst (v := (0 : Int32)) hx hb dX7_in_14 (by decide) ?_
      obtain rfl := Option.some.inj hf
      exact rt_z S hr hlk hw dX7_in_15 rfl
    · have hf := (if_neg c2).symm.trans hf
      refine lv_iconst (v := (1 : Int32)) hx hb dX7_in_10 (by decide) ?_
      refine lv_goto (tgt := 15) hx hb dX7_in_11 (by decide) ?_
      obtain rfl := Option.some.inj hf
      exact rt_z S hr hlk hw dX7_in_15 rfl

theorem zin {N : Nat} {a b c r : Int32} (h : f_X7_in N a b c = some r) : narrow .boolean (.int r) = .int r := by
  unfold f_X7_in at h
  repeat' split at h
  all_goals (obtain rfl := Option.some.inj h; rfl)

def f_X7_set (N : Nat) (p1 : Int32) (p2 : Int32) (t_boxes : (Nat → Int32)) : Option (Int32 × (Nat → Int32)) :=
  (bd1 (f_X7_in N p1 (0 : Int32) (239 : Int32)) (fun r1 => (if r1 = (0 : Int32) then (some ((-2 : Int32), t_boxes)) else (ck (inb p1 240) (if (t_boxes p1.toNatClampNeg) = p2 then (ck (inb p1 240) (if (1 : Int32) = (0 : Int32) then (some ((1 : Int32), (upd t_boxes p1.toNatClampNeg (vp_nar .boolean p2)))) else (some ((0 : Int32), (upd t_boxes p1.toNatClampNeg (vp_nar .boolean p2)))))) else (ck (inb p1 240) (if (0 : Int32) = (0 : Int32) then (some ((1 : Int32), (upd t_boxes p1.toNatClampNeg (vp_nar .boolean p2)))) else (some ((0 : Int32), (upd t_boxes p1.toNatClampNeg (vp_nar .boolean p2)))))))))))

set_option maxHeartbeats 4000000 in
set_option maxRecDepth 100000 in
theorem c_X7_set (l : Launch) (D : va_G) (cI cZ cJ cO : ClassId) (sz : Nat) (q_t q_t_boxes q_t_next q_t_left q_t_pairs q_t_lengths q_t_riggings q_t_toldLength q_t_toldRigging q_t_toldRoom q_t_ring q_t_was q_t_saved q_t_isThere q_t_forms q_t_sizes q_t_items q_t_moved : Nat) (N : Nat) (p1 : Int32) (p2 : Int32) (t_done : Int32) (t_many : Int32) (t_told : Int32) (t_ringN : Int32) (t_finding : Int32) (t_boxes : (Nat → Int32)) (r : Int32) (o_t_boxes : (Nat → Int32)) (hf : f_X7_set N p1 p2 t_boxes = some (r, o_t_boxes)) : Met l yX7_set wsX7_set ({ frames := 1, cells := 0, slots := 0, locals := 22 }) (PreC D (TY cI cZ cJ cO) [.ref q_t, .int p1, .int p2] [(q_t, .inr (7, [.ref q_t_boxes, .ref q_t_next, .int t_done, .ref q_t_left, .ref q_t_pairs, .int t_many, .ref q_t_lengths, .ref q_t_riggings, .int t_told, .ref q_t_toldLength, .ref q_t_toldRigging, .ref q_t_toldRoom, .int t_ringN, .ref q_t_ring, .ref q_t_was, .ref q_t_saved, .ref q_t_isThere, .ref q_t_forms, .ref q_t_sizes, .ref q_t_items, .ref q_t_moved, .int t_finding])), (q_t_boxes, .inl (cZ, 240, .inl t_boxes))] sz) (QcI D [(q_t, .inr (7, [.ref q_t_boxes, .ref q_t_next, .int t_done, .ref q_t_left, .ref q_t_pairs, .int t_many, .ref q_t_lengths, .ref q_t_riggings, .int t_told, .ref q_t_toldLength, .ref q_t_toldRigging, .ref q_t_toldRoom, .int t_ringN, .ref q_t_ring, .ref q_t_was, .ref q_t_saved, .ref q_t_isThere, .ref q_t_forms, .ref q_t_sizes, .ref q_t_items, .ref q_t_moved, .int t_finding])), (q_t_boxes, .inl (cZ, 240, .inl o_t_boxes))] (va_A [(q_t, .inr (7, [.ref q_t_boxes, .ref q_t_next, .int t_done, .ref q_t_left, .ref q_t_pairs, .int t_many, .ref q_t_lengths, .ref q_t_riggings, .int t_told, .ref q_t_toldLength, .ref q_t_toldRigging, .ref q_t_toldRoom, .int t_ringN, .ref q_t_ring, .ref q_t_was, .ref q_t_saved, .ref q_t_isThere, .ref q_t_forms, .ref q_t_sizes, .ref q_t_items, .ref q_t_moved, .int t_finding])), (q_t_boxes, .inl (cZ, 240, .inl t_boxes))] sz) r) 0 0 (va_A [(q_t, .inr (7, [.ref q_t_boxes, .ref q_t_next, .int t_done, .ref q_t_left, .ref q_t_pairs, .int t_many, .ref q_t_lengths, .ref q_t_riggings, .int t_told, .ref q_t_toldLength, .ref q_t_toldRigging, .ref q_t_toldRoom, .int t_ringN, .ref q_t_ring, .ref q_t_was, .ref q_t_saved, .ref q_t_isThere, .ref q_t_forms, .ref q_t_sizes, .ref q_t_items, .ref q_t_moved, .int t_finding])), (q_t_boxes, .inl (cZ, 240, .inl t_boxes))] sz) := by
  refine ctr (cc := cX7_set) (maxL := 4) (ret := (some .int)) (by decide) rfl (Nat.le_of_ble_eq_true rfl) ?_
  intro p e s m below meth c S hr hlk hnm hK hN hsz hA hw ls hl
  generalize va_A [(q_t, .inr (7, [.ref q_t_boxes, .ref q_t_next, .int t_done, .ref q_t_left, .ref q_t_pairs, .int t_many, .ref q_t_lengths, .ref q_t_riggings, .int t_told, .ref q_t_toldLength, .ref q_t_toldRigging, .ref q_t_toldRoom, .int t_ringN, .ref q_t_ring, .ref q_t_was, .ref q_t_saved, .ref q_t_isThere, .ref q_t_forms, .ref q_t_sizes, .ref q_t_items, .ref q_t_moved, .int t_finding])), (q_t_boxes, .inl (cZ, 240, .inl t_boxes))] sz = A at hA hw ⊢
  have S : CallFix p m c cX7_set 4 s ([.ref q_t, .int p1, .int p2] : List Value).toArray wsX7_set RX7 := S
  have hx := S.1
  have hb := S.2.1
  have hts := S.2.2.2.2
  have hl : lv_has ls 4 [(0, .ref q_t), (1, .int p1), (2, .int p2)] := hl
  have hinX7 : ∀ w ∈ u_ws RX7 TX7 22, w ∈ wsX7_set := by decide +kernel
  have k7 : Cond.fieldLink RX7 7 "BallBoxesModel" "boxes" "[Z" ∈ wsX7_set := by decide +kernel
  unfold f_X7_set at hf
  refine lv_iload_n hx hb dX7_set_0 rfl (lv_at hl 1 rfl) ?_
  refine lv_iconst (v := (0 : Int32)) hx hb dX7_set_1 (by decide) ?_
  refine lv_sipush (v := (239 : Int32)) hx hb dX7_set_2 (by decide) ?_
  obtain ⟨r1, h2, hf⟩ := bd1_some hf
  refine cl_i (wr := [(q_t, .inr (7, [.ref q_t_boxes, .ref q_t_next, .int t_done, .ref q_t_left, .ref q_t_pairs, .int t_many, .ref q_t_lengths, .ref q_t_riggings, .int t_told, .ref q_t_toldLength, .ref q_t_toldRigging, .ref q_t_toldRoom, .int t_ringN, .ref q_t_ring, .ref q_t_was, .ref q_t_saved, .ref q_t_isThere, .ref q_t_forms, .ref q_t_sizes, .ref q_t_items, .ref q_t_moved, .int t_finding])), (q_t_boxes, .inl (cZ, 240, .inl t_boxes))]) (ws' := [(q_t, .inr (7, [.ref q_t_boxes, .ref q_t_next, .int t_done, .ref q_t_left, .ref q_t_pairs, .int t_many, .ref q_t_lengths, .ref q_t_riggings, .int t_told, .ref q_t_toldLength, .ref q_t_toldRigging, .ref q_t_toldRoom, .int t_ringN, .ref q_t_ring, .ref q_t_was, .ref q_t_saved, .ref q_t_isThere, .ref q_t_forms, .ref q_t_sizes, .ref q_t_items, .ref q_t_moved, .int t_finding])), (q_t_boxes, .inl (cZ, 240, .inl t_boxes))]) hA hw [] [0, 1] [0, 1] rfl rfl rfl (by decide) rfl rfl (va_runS (As := [.int p1, .int (0 : Int32), .int (239 : Int32)]) (rest := []) S (c_X7_in l D cI cZ cJ cO _ N p1 (0 : Int32) (239 : Int32) r1 h2) (va_cwS 3 hts gX7_set_X7_in rfl rfl rfl (by decide +kernel) ⟨Nat.le_of_ble_eq_true rfl, Nat.le_of_ble_eq_true rfl⟩) (pre_S hK hN hw [] rfl rfl) rfl rfl hl.1 rfl (lv_room (Nat.le_of_ble_eq_true rfl)) dX7_set_5 ⟨Nat.zero_le _, Nat.zero_le _⟩) (fun H locs hw => ?_)
  refine lv_if_ne (tgt := 14) hx hb dX7_set_8 (by decide) (fun c3 => ?_) (fun c3 => ?_)
  · have hf := (if_neg c3).symm.trans hf
    refine lv_aload_n hx hb dX7_set_14 rfl (lv_at hl 0 rfl) ?_
    refine g_get (ci := 7) (C := RX7) (T := TX7) (N := 22) S hinX7 hK hw 0 0 k7 dX7_set_15 rfl rfl (by decide) rfl ?_
    refine lv_iload_n hx hb dX7_set_18 rfl (lv_at hl 1 rfl) ?_
    obtain ⟨b4, hf⟩ := ck_some hf
    refine g_zald S hK hw 1 1 b4 dX7_set_19 rfl rfl ?_
    refine lv_iload_n hx hb dX7_set_20 rfl (lv_at hl 2 rfl) ?_
    refine lv_icmp_ne (tgt := 28) hx hb dX7_set_21 (by decide) (fun c5 => ?_) (fun c5 => ?_)
    · have hf := (if_neg c5).symm.trans hf
      refine lv_iconst (v := (0 : Int32)) hx hb dX7_set_28 (by decide) ?_
      refine lv_istore_n (lv' := [(3, .int (0 : Int32)), (0, .ref q_t), (1, .int p1), (2, .int p2)]) hx hb dX7_set_29 rfl hl (by decide) rfl (fun ls hl => ?_)
      refine lv_aload_n hx hb dX7_set_30 rfl (lv_at hl 1 rfl) ?_
      refine g_get (ci := 7) (C := RX7) (T := TX7) (N := 22) S hinX7 hK hw 0 0 k7 dX7_set_31 rfl rfl (by decide) rfl ?_
      refine lv_iload_n hx hb dX7_set_34 rfl (lv_at hl 2 rfl) ?_
      refine lv_iload_n hx hb dX7_set_35 rfl (lv_at hl 3 rfl) ?_
      obtain ⟨b6, hf⟩ := ck_some hf
      refine g_zast (ws' := [(q_t, .inr (7, [.ref q_t_boxes, .ref q_t_next, .int t_done, .ref q_t_left, .ref q_t_pairs, .int t_many, .ref q_t_lengths, .ref q_t_riggings, .int t_told, .ref q_t_toldLength, .ref q_t_toldRigging, .ref q_t_toldRoom, .int t_ringN, .ref q_t_ring, .ref q_t_was, .ref q_t_saved, .ref q_t_isThere, .ref q_t_forms, .ref q_t_sizes, .ref q_t_items, .ref q_t_moved, .int t_finding])), (q_t_boxes, .inl (cZ, 240, .inl (upd t_boxes p1.toNatClampNeg (vp_nar .boolean p2))))]) S hK hw 1 1 b6 dX7_set_36 rfl rfl rfl (fun H locs hw => ?_)
      refine lv_iload_n hx hb dX7_set_37 rfl (lv_at hl 0 rfl) ?_
      refine lv_if_eq (tgt := 45) hx hb dX7_set_38 (by decide) (fun c7 => ?_) (fun c7 => ?_)
      · have hf := (if_pos c7).symm.trans hf
        refine lv_iconst (v := (1 : Int32)) hx hb dX7_set_45 (by decide) ?_
        obtain ⟨rfl, rfl⟩ := pr2 (Option.some.inj hf)
        exact rt_i S hr hlk hw dX7_set_46
      · have hf := (if_neg c7).symm.trans hf
        refine lv_iconst (v := (0 : Int32)) hx hb dX7_set_41 (by decide) ?_
        refine lv_goto (tgt := 46) hx hb dX7_set_42 (by decide) ?_
        obtain ⟨rfl, rfl⟩ := pr2 (Option.some.inj hf)
        exact rt_i S hr hlk hw dX7_set_46
    · have hf := (if_pos c5).symm.trans hf
      refine lv_iconst (v := (1 : Int32)) hx hb dX7_set_24 (by decide) ?_
      refine lv_goto (tgt := 29) hx hb dX7_set_25 (by decide) ?_
      refine lv_istore_n (lv' := [(3, .int (1 : Int32)), (0, .ref q_t), (1, .int p1), (2, .int p2)]) hx hb dX7_set_29 rfl hl (by decide) rfl (fun ls hl => ?_)
      refine lv_aload_n hx hb dX7_set_30 rfl (lv_at hl 1 rfl) ?_
      refine g_get (ci := 7) (C := RX7) (T := TX7) (N := 22) S hinX7 hK hw 0 0 k7 dX7_set_31 rfl rfl (by decide) rfl ?_
      refine lv_iload_n hx hb dX7_set_34 rfl (lv_at hl 2 rfl) ?_
      refine lv_iload_n hx hb dX7_set_35 rfl (lv_at hl 3 rfl) ?_
      obtain ⟨b8, hf⟩ := ck_some hf
      refine g_zast (ws' := [(q_t, .inr (7, [.ref q_t_boxes, .ref q_t_next, .int t_done, .ref q_t_left, .ref q_t_pairs, .int t_many, .ref q_t_lengths, .ref q_t_riggings, .int t_told, .ref q_t_toldLength, .ref q_t_toldRigging, .ref q_t_toldRoom, .int t_ringN, .ref q_t_ring, .ref q_t_was, .ref q_t_saved, .ref q_t_isThere, .ref q_t_forms, .ref q_t_sizes, .ref q_t_items, .ref q_t_moved, .int t_finding])), (q_t_boxes, .inl (cZ, 240, .inl (upd t_boxes p1.toNatClampNeg (vp_nar .boolean p2))))]) S hK hw 1 1 b8 dX7_set_36 rfl rfl rfl (fun H locs hw => ?_)
      refine lv_iload_n hx hb dX7_set_37 rfl (lv_at hl 0 rfl) ?_
      refine lv_if_eq (tgt := 45) hx hb dX7_set_38 (by decide) (fun c9 => ?_) (fun c9 => ?_)
      · have hf := (if_pos c9).symm.trans hf
        refine lv_iconst (v := (1 : Int32)) hx hb dX7_set_45 (by decide) ?_
        obtain ⟨rfl, rfl⟩ := pr2 (Option.some.inj hf)
        exact rt_i S hr hlk hw dX7_set_46
      · have hf := (if_neg c9).symm.trans hf
        refine lv_iconst (v := (0 : Int32)) hx hb dX7_set_41 (by decide) ?_
        refine lv_goto (tgt := 46) hx hb dX7_set_42 (by decide) ?_
        obtain ⟨rfl, rfl⟩ := pr2 (Option.some.inj hf)
        exact rt_i S hr hlk hw dX7_set_46
  · have hf := (if_pos c3).symm.trans hf
    refine lv_bipush (v := (-2 : Int32)) hx hb dX7_set_11 (by decide) ?_
    obtain ⟨rfl, rfl⟩ := pr2 (Option.some.inj hf)
    exact rt_i S hr hlk hw dX7_set_13

def f_X7_at (N : Nat) (p1 : Int32) (t_boxes : (Nat → Int32)) : Option (Int32) :=
  (bd1 (f_X7_in N p1 (0 : Int32) (239 : Int32)) (fun r1 => (if r1 = (0 : Int32) then (some (-2 : Int32)) else (ck (inb p1 240) (if (t_boxes p1.toNatClampNeg) = (0 : Int32) then (some (0 : Int32)) else (some (1 : Int32)))))))

set_option maxHeartbeats 4000000 in
set_option maxRecDepth 100000 in
theorem c_X7_at (l : Launch) (D : va_G) (cI cZ cJ cO : ClassId) (sz : Nat) (q_t q_t_boxes q_t_next q_t_left q_t_pairs q_t_lengths q_t_riggings q_t_toldLength q_t_toldRigging q_t_toldRoom q_t_ring q_t_was q_t_saved q_t_isThere q_t_forms q_t_sizes q_t_items q_t_moved : Nat) (N : Nat) (p1 : Int32) (t_done : Int32) (t_many : Int32) (t_told : Int32) (t_ringN : Int32) (t_finding : Int32) (t_boxes : (Nat → Int32)) (r : Int32) (hf : f_X7_at N p1 t_boxes = some r) : Met l yX7_at wsX7_at ({ frames := 1, cells := 0, slots := 0, locals := 22 }) (PreC D (TY cI cZ cJ cO) [.ref q_t, .int p1] [(q_t, .inr (7, [.ref q_t_boxes, .ref q_t_next, .int t_done, .ref q_t_left, .ref q_t_pairs, .int t_many, .ref q_t_lengths, .ref q_t_riggings, .int t_told, .ref q_t_toldLength, .ref q_t_toldRigging, .ref q_t_toldRoom, .int t_ringN, .ref q_t_ring, .ref q_t_was, .ref q_t_saved, .ref q_t_isThere, .ref q_t_forms, .ref q_t_sizes, .ref q_t_items, .ref q_t_moved, .int t_finding])), (q_t_boxes, .inl (cZ, 240, .inl t_boxes))] sz) (QcI D [(q_t, .inr (7, [.ref q_t_boxes, .ref q_t_next, .int t_done, .ref q_t_left, .ref q_t_pairs, .int t_many, .ref q_t_lengths, .ref q_t_riggings, .int t_told, .ref q_t_toldLength, .ref q_t_toldRigging, .ref q_t_toldRoom, .int t_ringN, .ref q_t_ring, .ref q_t_was, .ref q_t_saved, .ref q_t_isThere, .ref q_t_forms, .ref q_t_sizes, .ref q_t_items, .ref q_t_moved, .int t_finding])), (q_t_boxes, .inl (cZ, 240, .inl t_boxes))] (va_A [(q_t, .inr (7, [.ref q_t_boxes, .ref q_t_next, .int t_done, .ref q_t_left, .ref q_t_pairs, .int t_many, .ref q_t_lengths, .ref q_t_riggings, .int t_told, .ref q_t_toldLength, .ref q_t_toldRigging, .ref q_t_toldRoom, .int t_ringN, .ref q_t_ring, .ref q_t_was, .ref q_t_saved, .ref q_t_isThere, .ref q_t_forms, .ref q_t_sizes, .ref q_t_items, .ref q_t_moved, .int t_finding])), (q_t_boxes, .inl (cZ, 240, .inl t_boxes))] sz) r) 0 0 (va_A [(q_t, .inr (7, [.ref q_t_boxes, .ref q_t_next, .int t_done, .ref q_t_left, .ref q_t_pairs, .int t_many, .ref q_t_lengths, .ref q_t_riggings, .int t_told, .ref q_t_toldLength, .ref q_t_toldRigging, .ref q_t_toldRoom, .int t_ringN, .ref q_t_ring, .ref q_t_was, .ref q_t_saved, .ref q_t_isThere, .ref q_t_forms, .ref q_t_sizes, .ref q_t_items, .ref q_t_moved, .int t_finding])), (q_t_boxes, .inl (cZ, 240, .inl t_boxes))] sz) := by
  refine ctr (cc := cX7_at) (maxL := 2) (ret := (some .int)) (by decide) rfl (Nat.le_of_ble_eq_true rfl) ?_
  intro p e s m below meth c S hr hlk hnm hK hN hsz hA hw ls hl
  generalize va_A [(q_t, .inr (7, [.ref q_t_boxes, .ref q_t_next, .int t_done, .ref q_t_left, .ref q_t_pairs, .int t_many, .ref q_t_lengths, .ref q_t_riggings, .int t_told, .ref q_t_toldLength, .ref q_t_toldRigging, .ref q_t_toldRoom, .int t_ringN, .ref q_t_ring, .ref q_t_was, .ref q_t_saved, .ref q_t_isThere, .ref q_t_forms, .ref q_t_sizes, .ref q_t_items, .ref q_t_moved, .int t_finding])), (q_t_boxes, .inl (cZ, 240, .inl t_boxes))] sz = A at hA hw ⊢
  have S : CallFix p m c cX7_at 2 s ([.ref q_t, .int p1] : List Value).toArray wsX7_at RX7 := S
  have hx := S.1
  have hb := S.2.1
  have hts := S.2.2.2.2
  have hl : lv_has ls 2 [(0, .ref q_t), (1, .int p1)] := hl
  have hinX7 : ∀ w ∈ u_ws RX7 TX7 22, w ∈ wsX7_at := by decide +kernel
  have k7 : Cond.fieldLink RX7 7 "BallBoxesModel" "boxes" "[Z" ∈ wsX7_at := by decide +kernel
  unfold f_X7_at at hf
  refine lv_iload_n hx hb dX7_at_0 rfl (lv_at hl 1 rfl) ?_
  refine lv_iconst (v := (0 : Int32)) hx hb dX7_at_1 (by decide) ?_
  refine lv_sipush (v := (239 : Int32)) hx hb dX7_at_2 (by decide) ?_
  obtain ⟨r1, h2, hf⟩ := bd1_some hf
  refine cl_i (wr := [(q_t, .inr (7, [.ref q_t_boxes, .ref q_t_next, .int t_done, .ref q_t_left, .ref q_t_pairs, .int t_many, .ref q_t_lengths, .ref q_t_riggings, .int t_told, .ref q_t_toldLength, .ref q_t_toldRigging, .ref q_t_toldRoom, .int t_ringN, .ref q_t_ring, .ref q_t_was, .ref q_t_saved, .ref q_t_isThere, .ref q_t_forms, .ref q_t_sizes, .ref q_t_items, .ref q_t_moved, .int t_finding])), (q_t_boxes, .inl (cZ, 240, .inl t_boxes))]) (ws' := [(q_t, .inr (7, [.ref q_t_boxes, .ref q_t_next, .int t_done, .ref q_t_left, .ref q_t_pairs, .int t_many, .ref q_t_lengths, .ref q_t_riggings, .int t_told, .ref q_t_toldLength, .ref q_t_toldRigging, .ref q_t_toldRoom, .int t_ringN, .ref q_t_ring, .ref q_t_was, .ref q_t_saved, .ref q_t_isThere, .ref q_t_forms, .ref q_t_sizes, .ref q_t_items, .ref q_t_moved, .int t_finding])), (q_t_boxes, .inl (cZ, 240, .inl t_boxes))]) hA hw [] [0, 1] [0, 1] rfl rfl rfl (by decide) rfl rfl (va_runS (As := [.int p1, .int (0 : Int32), .int (239 : Int32)]) (rest := []) S (c_X7_in l D cI cZ cJ cO _ N p1 (0 : Int32) (239 : Int32) r1 h2) (va_cwS 3 hts gX7_at_X7_in rfl rfl rfl (by decide +kernel) ⟨Nat.le_of_ble_eq_true rfl, Nat.le_of_ble_eq_true rfl⟩) (pre_S hK hN hw [] rfl rfl) rfl rfl hl.1 rfl (lv_room (Nat.le_of_ble_eq_true rfl)) dX7_at_5 ⟨Nat.zero_le _, Nat.zero_le _⟩) (fun H locs hw => ?_)
  refine lv_if_eq (tgt := 28) hx hb dX7_at_8 (by decide) (fun c3 => ?_) (fun c3 => ?_)
  · have hf := (if_pos c3).symm.trans hf
    refine lv_bipush (v := (-2 : Int32)) hx hb dX7_at_28 (by decide) ?_
    obtain rfl := Option.some.inj hf
    exact rt_i S hr hlk hw dX7_at_30
  · have hf := (if_neg c3).symm.trans hf
    refine lv_aload_n hx hb dX7_at_11 rfl (lv_at hl 0 rfl) ?_
    refine g_get (ci := 7) (C := RX7) (T := TX7) (N := 22) S hinX7 hK hw 0 0 k7 dX7_at_12 rfl rfl (by decide) rfl ?_
    refine lv_iload_n hx hb dX7_at_15 rfl (lv_at hl 1 rfl) ?_
    obtain ⟨b4, hf⟩ := ck_some hf
    refine g_zald S hK hw 1 1 b4 dX7_at_16 rfl rfl ?_
    refine lv_if_eq (tgt := 24) hx hb dX7_at_17 (by decide) (fun c5 => ?_) (fun c5 => ?_)
    · have hf := (if_pos c5).symm.trans hf
      refine lv_iconst (v := (0 : Int32)) hx hb dX7_at_24 (by decide) ?_
      refine lv_goto (tgt := 30) hx hb dX7_at_25 (by decide) ?_
      obtain rfl := Option.some.inj hf
      exact rt_i S hr hlk hw dX7_at_30
    · have hf := (if_neg c5).symm.trans hf
      refine lv_iconst (v := (1 : Int32)) hx hb dX7_at_20 (by decide) ?_
      refine lv_goto (tgt := 30) hx hb dX7_at_21 (by decide) ?_
      obtain rfl := Option.some.inj hf
      exact rt_i S hr hlk hw dX7_at_30

def L_X7_balls_4 (N : Nat) (t_boxes : (Nat → Int32)) (K : Int32 → Option (Int32)) : Nat → Int32 → Int32 → Option (Int32)
  | 0, _, _ => none
  | n + 1, x1, x2 => (if (240 : Int32) ≤ x2 then (K x1) else (ck (inb x2 240) (if (t_boxes x2.toNatClampNeg) = (0 : Int32) then (L_X7_balls_4 N t_boxes K n (x1 + (0 : Int32)) (x2 + (1 : Int32))) else (L_X7_balls_4 N t_boxes K n (x1 + (1 : Int32)) (x2 + (1 : Int32))))))

def f_X7_balls (N : Nat)  (t_boxes : (Nat → Int32)) : Option (Int32) :=
  (L_X7_balls_4 N t_boxes (fun y4 => (some y4)) N (0 : Int32) (0 : Int32))

set_option maxHeartbeats 4000000 in
set_option maxRecDepth 100000 in
theorem c_X7_balls (l : Launch) (D : va_G) (cI cZ cJ cO : ClassId) (sz : Nat) (q_t q_t_boxes q_t_next q_t_left q_t_pairs q_t_lengths q_t_riggings q_t_toldLength q_t_toldRigging q_t_toldRoom q_t_ring q_t_was q_t_saved q_t_isThere q_t_forms q_t_sizes q_t_items q_t_moved : Nat) (N : Nat)  (t_done : Int32) (t_many : Int32) (t_told : Int32) (t_ringN : Int32) (t_finding : Int32) (t_boxes : (Nat → Int32)) (r : Int32) (hf : f_X7_balls N t_boxes = some r) : Met l yX7_balls wsX7_balls ({ frames := 0, cells := 0, slots := 0, locals := 0 }) (PreC D (TY cI cZ cJ cO) [.ref q_t] [(q_t, .inr (7, [.ref q_t_boxes, .ref q_t_next, .int t_done, .ref q_t_left, .ref q_t_pairs, .int t_many, .ref q_t_lengths, .ref q_t_riggings, .int t_told, .ref q_t_toldLength, .ref q_t_toldRigging, .ref q_t_toldRoom, .int t_ringN, .ref q_t_ring, .ref q_t_was, .ref q_t_saved, .ref q_t_isThere, .ref q_t_forms, .ref q_t_sizes, .ref q_t_items, .ref q_t_moved, .int t_finding])), (q_t_boxes, .inl (cZ, 240, .inl t_boxes))] sz) (QcI D [(q_t, .inr (7, [.ref q_t_boxes, .ref q_t_next, .int t_done, .ref q_t_left, .ref q_t_pairs, .int t_many, .ref q_t_lengths, .ref q_t_riggings, .int t_told, .ref q_t_toldLength, .ref q_t_toldRigging, .ref q_t_toldRoom, .int t_ringN, .ref q_t_ring, .ref q_t_was, .ref q_t_saved, .ref q_t_isThere, .ref q_t_forms, .ref q_t_sizes, .ref q_t_items, .ref q_t_moved, .int t_finding])), (q_t_boxes, .inl (cZ, 240, .inl t_boxes))] (va_A [(q_t, .inr (7, [.ref q_t_boxes, .ref q_t_next, .int t_done, .ref q_t_left, .ref q_t_pairs, .int t_many, .ref q_t_lengths, .ref q_t_riggings, .int t_told, .ref q_t_toldLength, .ref q_t_toldRigging, .ref q_t_toldRoom, .int t_ringN, .ref q_t_ring, .ref q_t_was, .ref q_t_saved, .ref q_t_isThere, .ref q_t_forms, .ref q_t_sizes, .ref q_t_items, .ref q_t_moved, .int t_finding])), (q_t_boxes, .inl (cZ, 240, .inl t_boxes))] sz) r) 0 0 (va_A [(q_t, .inr (7, [.ref q_t_boxes, .ref q_t_next, .int t_done, .ref q_t_left, .ref q_t_pairs, .int t_many, .ref q_t_lengths, .ref q_t_riggings, .int t_told, .ref q_t_toldLength, .ref q_t_toldRigging, .ref q_t_toldRoom, .int t_ringN, .ref q_t_ring, .ref q_t_was, .ref q_t_saved, .ref q_t_isThere, .ref q_t_forms, .ref q_t_sizes, .ref q_t_items, .ref q_t_moved, .int t_finding])), (q_t_boxes, .inl (cZ, 240, .inl t_boxes))] sz) := by
  refine ctr (cc := cX7_balls) (maxL := 3) (ret := (some .int)) (by decide) rfl (Nat.le_of_ble_eq_true rfl) ?_
  intro p e s m below meth c S hr hlk hnm hK hN hsz hA hw ls hl
  generalize va_A [(q_t, .inr (7, [.ref q_t_boxes, .ref q_t_next, .int t_done, .ref q_t_left, .ref q_t_pairs, .int t_many, .ref q_t_lengths, .ref q_t_riggings, .int t_told, .ref q_t_toldLength, .ref q_t_toldRigging, .ref q_t_toldRoom, .int t_ringN, .ref q_t_ring, .ref q_t_was, .ref q_t_saved, .ref q_t_isThere, .ref q_t_forms, .ref q_t_sizes, .ref q_t_items, .ref q_t_moved, .int t_finding])), (q_t_boxes, .inl (cZ, 240, .inl t_boxes))] sz = A at hA hw ⊢
  have S : CallFix p m c cX7_balls 3 s ([.ref q_t] : List Value).toArray wsX7_balls RX7 := S
  have hx := S.1
  have hb := S.2.1
  have hts := S.2.2.2.2
  have hl : lv_has ls 3 [(0, .ref q_t)] := hl
  have hinX7 : ∀ w ∈ u_ws RX7 TX7 22, w ∈ wsX7_balls := by decide +kernel
  have k7 : Cond.fieldLink RX7 7 "BallBoxesModel" "boxes" "[Z" ∈ wsX7_balls := by decide +kernel
  have Lp4 : ∀  (K : Int32 → Option (Int32)), (∀ (z1 : Int32) (H : Heap) (locs : List Loc) (ls : Array Slot), Wd D A s.heap [(q_t, .inr (7, [.ref q_t_boxes, .ref q_t_next, .int t_done, .ref q_t_left, .ref q_t_pairs, .int t_many, .ref q_t_lengths, .ref q_t_riggings, .int t_told, .ref q_t_toldLength, .ref q_t_toldRigging, .ref q_t_toldRoom, .int t_ringN, .ref q_t_ring, .ref q_t_was, .ref q_t_saved, .ref q_t_isThere, .ref q_t_forms, .ref q_t_sizes, .ref q_t_items, .ref q_t_moved, .int t_finding])), (q_t_boxes, .inl (cZ, 240, .inl t_boxes))] H locs → lv_has ls 3 [(1, .int z1)] → K z1 = some r → W p l e ({ frames := 0, cells := 0, slots := 0, locals := 0 } : Room) s m ([.ref q_t] : List Value).toArray below meth c H locs 0 0 (MQ below (QcI D [(q_t, .inr (7, [.ref q_t_boxes, .ref q_t_next, .int t_done, .ref q_t_left, .ref q_t_pairs, .int t_many, .ref q_t_lengths, .ref q_t_riggings, .int t_told, .ref q_t_toldLength, .ref q_t_toldRigging, .ref q_t_toldRoom, .int t_ringN, .ref q_t_ring, .ref q_t_was, .ref q_t_saved, .ref q_t_isThere, .ref q_t_forms, .ref q_t_sizes, .ref q_t_items, .ref q_t_moved, .int t_finding])), (q_t_boxes, .inl (cZ, 240, .inl t_boxes))] A r) ([.ref q_t] : List Value).toArray s 0 0 A) (F0 m 34 ls [])) → ∀ (n : Nat) (x1 : Int32) (x2 : Int32) (H : Heap) (locs : List Loc) (ls : Array Slot), Wd D A s.heap [(q_t, .inr (7, [.ref q_t_boxes, .ref q_t_next, .int t_done, .ref q_t_left, .ref q_t_pairs, .int t_many, .ref q_t_lengths, .ref q_t_riggings, .int t_told, .ref q_t_toldLength, .ref q_t_toldRigging, .ref q_t_toldRoom, .int t_ringN, .ref q_t_ring, .ref q_t_was, .ref q_t_saved, .ref q_t_isThere, .ref q_t_forms, .ref q_t_sizes, .ref q_t_items, .ref q_t_moved, .int t_finding])), (q_t_boxes, .inl (cZ, 240, .inl t_boxes))] H locs → lv_has ls 3 [(0, .ref q_t), (1, .int x1), (2, .int x2)] → L_X7_balls_4 N t_boxes K n x1 x2 = some r → W p l e ({ frames := 0, cells := 0, slots := 0, locals := 0 } : Room) s m ([.ref q_t] : List Value).toArray below meth c H locs 0 0 (MQ below (QcI D [(q_t, .inr (7, [.ref q_t_boxes, .ref q_t_next, .int t_done, .ref q_t_left, .ref q_t_pairs, .int t_many, .ref q_t_lengths, .ref q_t_riggings, .int t_told, .ref q_t_toldLength, .ref q_t_toldRigging, .ref q_t_toldRoom, .int t_ringN, .ref q_t_ring, .ref q_t_was, .ref q_t_saved, .ref q_t_isThere, .ref q_t_forms, .ref q_t_sizes, .ref q_t_items, .ref q_t_moved, .int t_finding])), (q_t_boxes, .inl (cZ, 240, .inl t_boxes))] A r) ([.ref q_t] : List Value).toArray s 0 0 A) (F0 m 4 ls []) := by
    intro  K hKx n
    induction n with
    | zero =>
      intro x1 x2 H locs ls hw hl hf
      rw [L_X7_balls_4] at hf
      cases hf
    | succ n ih =>
      intro x1 x2 H locs ls hw hl hf
      rw [L_X7_balls_4] at hf
      refine lv_iload_n hx hb dX7_balls_4 rfl (lv_at hl 2 rfl) ?_
      refine lv_sipush (v := (240 : Int32)) hx hb dX7_balls_5 (by decide) ?_
      refine lv_icmp_ge (tgt := 34) hx hb dX7_balls_8 (by decide) (fun c1 => ?_) (fun c1 => ?_)
      · have hf := (if_pos c1).symm.trans hf
        exact hKx x1 _ _ _ hw (lv_sub hl [1] rfl) hf
      · have hf := (if_neg c1).symm.trans hf
        refine lv_iload_n hx hb dX7_balls_11 rfl (lv_at hl 1 rfl) ?_
        refine lv_aload_n hx hb dX7_balls_12 rfl (lv_at hl 0 rfl) ?_
        refine g_get (ci := 7) (C := RX7) (T := TX7) (N := 22) S hinX7 hK hw 0 0 k7 dX7_balls_13 rfl rfl (by decide) rfl ?_
        refine lv_iload_n hx hb dX7_balls_16 rfl (lv_at hl 2 rfl) ?_
        obtain ⟨b2, hf⟩ := ck_some hf
        refine g_zald S hK hw 1 1 b2 dX7_balls_17 rfl rfl ?_
        refine lv_if_eq (tgt := 25) hx hb dX7_balls_18 (by decide) (fun c3 => ?_) (fun c3 => ?_)
        · have hf := (if_pos c3).symm.trans hf
          refine lv_iconst (v := (0 : Int32)) hx hb dX7_balls_25 (by decide) ?_
          refine lv_iadd hx hb dX7_balls_26 ?_
          refine lv_istore_n (lv' := [(1, .int (x1 + (0 : Int32))), (0, .ref q_t), (2, .int x2)]) hx hb dX7_balls_27 rfl hl (by decide) rfl (fun ls hl => ?_)
          refine lv_iinc (v := (x2 + (1 : Int32))) (lv' := [(2, .int (x2 + (1 : Int32))), (1, .int (x1 + (0 : Int32))), (0, .ref q_t)]) hx hb dX7_balls_28 hl (k := 2) rfl rfl (by decide) rfl (fun ls hl => ?_)
          refine lv_goto (tgt := 4) hx hb dX7_balls_31 (by decide) ?_
          exact ih (x1 + (0 : Int32)) (x2 + (1 : Int32)) _ _ _ hw (lv_sub hl [2, 1, 0] rfl) hf
        · have hf := (if_neg c3).symm.trans hf
          refine lv_iconst (v := (1 : Int32)) hx hb dX7_balls_21 (by decide) ?_
          refine lv_goto (tgt := 26) hx hb dX7_balls_22 (by decide) ?_
          refine lv_iadd hx hb dX7_balls_26 ?_
          refine lv_istore_n (lv' := [(1, .int (x1 + (1 : Int32))), (0, .ref q_t), (2, .int x2)]) hx hb dX7_balls_27 rfl hl (by decide) rfl (fun ls hl => ?_)
          refine lv_iinc (v := (x2 + (1 : Int32))) (lv' := [(2, .int (x2 + (1 : Int32))), (1, .int (x1 + (1 : Int32))), (0, .ref q_t)]) hx hb dX7_balls_28 hl (k := 2) rfl rfl (by decide) rfl (fun ls hl => ?_)
          refine lv_goto (tgt := 4) hx hb dX7_balls_31 (by decide) ?_
          exact ih (x1 + (1 : Int32)) (x2 + (1 : Int32)) _ _ _ hw (lv_sub hl [2, 1, 0] rfl) hf
  unfold f_X7_balls at hf
  refine lv_iconst (v := (0 : Int32)) hx hb dX7_balls_0 (by decide) ?_
  refine lv_istore_n (lv' := [(1, .int (0 : Int32)), (0, .ref q_t)]) hx hb dX7_balls_1 rfl hl (by decide) rfl (fun ls hl => ?_)
  refine lv_iconst (v := (0 : Int32)) hx hb dX7_balls_2 (by decide) ?_
  refine lv_istore_n (lv' := [(2, .int (0 : Int32)), (1, .int (0 : Int32)), (0, .ref q_t)]) hx hb dX7_balls_3 rfl hl (by decide) rfl (fun ls hl => ?_)
  refine Lp4  _ (fun y4 H locs ls hw hl hf => ?_) N (0 : Int32) (0 : Int32) _ _ _ hw (lv_sub hl [2, 1, 0] rfl) hf
  refine lv_iload_n hx hb dX7_balls_34 rfl (lv_at hl 0 rfl) ?_
  obtain rfl := Option.some.inj hf
  exact rt_i S hr hlk hw dX7_balls_35

def L_X7_empty_7 (N : Nat) (K : (Nat → Int32) → Option (Int32 × (Nat → Int32))) : Nat → Int32 → (Nat → Int32) → Option (Int32 × (Nat → Int32))
  | 0, _, _ => none
  | n + 1, x2, w_t_boxes => (if (240 : Int32) ≤ x2 then (K w_t_boxes) else (ck (inb x2 240) (L_X7_empty_7 N K n (x2 + (1 : Int32)) (upd w_t_boxes x2.toNatClampNeg (vp_nar .boolean (0 : Int32))))))

def f_X7_empty (N : Nat)  (t_boxes : (Nat → Int32)) : Option (Int32 × (Nat → Int32)) :=
  (bd1 (f_X7_balls N t_boxes) (fun r1 => (L_X7_empty_7 N  (fun u5 => (some (r1, u5))) N (0 : Int32) t_boxes)))

set_option maxHeartbeats 4000000 in
set_option maxRecDepth 100000 in
theorem c_X7_empty (l : Launch) (D : va_G) (cI cZ cJ cO : ClassId) (sz : Nat) (q_t q_t_boxes q_t_next q_t_left q_t_pairs q_t_lengths q_t_riggings q_t_toldLength q_t_toldRigging q_t_toldRoom q_t_ring q_t_was q_t_saved q_t_isThere q_t_forms q_t_sizes q_t_items q_t_moved : Nat) (N : Nat)  (t_done : Int32) (t_many : Int32) (t_told : Int32) (t_ringN : Int32) (t_finding : Int32) (t_boxes : (Nat → Int32)) (r : Int32) (o_t_boxes : (Nat → Int32)) (hf : f_X7_empty N t_boxes = some (r, o_t_boxes)) : Met l yX7_empty wsX7_empty ({ frames := 1, cells := 0, slots := 0, locals := 22 }) (PreC D (TY cI cZ cJ cO) [.ref q_t] [(q_t, .inr (7, [.ref q_t_boxes, .ref q_t_next, .int t_done, .ref q_t_left, .ref q_t_pairs, .int t_many, .ref q_t_lengths, .ref q_t_riggings, .int t_told, .ref q_t_toldLength, .ref q_t_toldRigging, .ref q_t_toldRoom, .int t_ringN, .ref q_t_ring, .ref q_t_was, .ref q_t_saved, .ref q_t_isThere, .ref q_t_forms, .ref q_t_sizes, .ref q_t_items, .ref q_t_moved, .int t_finding])), (q_t_boxes, .inl (cZ, 240, .inl t_boxes))] sz) (QcI D [(q_t, .inr (7, [.ref q_t_boxes, .ref q_t_next, .int t_done, .ref q_t_left, .ref q_t_pairs, .int t_many, .ref q_t_lengths, .ref q_t_riggings, .int t_told, .ref q_t_toldLength, .ref q_t_toldRigging, .ref q_t_toldRoom, .int t_ringN, .ref q_t_ring, .ref q_t_was, .ref q_t_saved, .ref q_t_isThere, .ref q_t_forms, .ref q_t_sizes, .ref q_t_items, .ref q_t_moved, .int t_finding])), (q_t_boxes, .inl (cZ, 240, .inl o_t_boxes))] (va_A [(q_t, .inr (7, [.ref q_t_boxes, .ref q_t_next, .int t_done, .ref q_t_left, .ref q_t_pairs, .int t_many, .ref q_t_lengths, .ref q_t_riggings, .int t_told, .ref q_t_toldLength, .ref q_t_toldRigging, .ref q_t_toldRoom, .int t_ringN, .ref q_t_ring, .ref q_t_was, .ref q_t_saved, .ref q_t_isThere, .ref q_t_forms, .ref q_t_sizes, .ref q_t_items, .ref q_t_moved, .int t_finding])), (q_t_boxes, .inl (cZ, 240, .inl t_boxes))] sz) r) 0 0 (va_A [(q_t, .inr (7, [.ref q_t_boxes, .ref q_t_next, .int t_done, .ref q_t_left, .ref q_t_pairs, .int t_many, .ref q_t_lengths, .ref q_t_riggings, .int t_told, .ref q_t_toldLength, .ref q_t_toldRigging, .ref q_t_toldRoom, .int t_ringN, .ref q_t_ring, .ref q_t_was, .ref q_t_saved, .ref q_t_isThere, .ref q_t_forms, .ref q_t_sizes, .ref q_t_items, .ref q_t_moved, .int t_finding])), (q_t_boxes, .inl (cZ, 240, .inl t_boxes))] sz) := by
  refine ctr (cc := cX7_empty) (maxL := 3) (ret := (some .int)) (by decide) rfl (Nat.le_of_ble_eq_true rfl) ?_
  intro p e s m below meth c S hr hlk hnm hK hN hsz hA hw ls hl
  generalize va_A [(q_t, .inr (7, [.ref q_t_boxes, .ref q_t_next, .int t_done, .ref q_t_left, .ref q_t_pairs, .int t_many, .ref q_t_lengths, .ref q_t_riggings, .int t_told, .ref q_t_toldLength, .ref q_t_toldRigging, .ref q_t_toldRoom, .int t_ringN, .ref q_t_ring, .ref q_t_was, .ref q_t_saved, .ref q_t_isThere, .ref q_t_forms, .ref q_t_sizes, .ref q_t_items, .ref q_t_moved, .int t_finding])), (q_t_boxes, .inl (cZ, 240, .inl t_boxes))] sz = A at hA hw ⊢
  have S : CallFix p m c cX7_empty 3 s ([.ref q_t] : List Value).toArray wsX7_empty RX7 := S
  have hx := S.1
  have hb := S.2.1
  have hts := S.2.2.2.2
  have hl : lv_has ls 3 [(0, .ref q_t)] := hl
  have hinX7 : ∀ w ∈ u_ws RX7 TX7 22, w ∈ wsX7_empty := by decide +kernel
  have k7 : Cond.fieldLink RX7 7 "BallBoxesModel" "boxes" "[Z" ∈ wsX7_empty := by decide +kernel
  have Lp7 : ∀ (x1 : Int32) (K : (Nat → Int32) → Option (Int32 × (Nat → Int32))), (∀ (z_t_boxes : (Nat → Int32)) (H : Heap) (locs : List Loc) (ls : Array Slot), Wd D A s.heap [(q_t, .inr (7, [.ref q_t_boxes, .ref q_t_next, .int t_done, .ref q_t_left, .ref q_t_pairs, .int t_many, .ref q_t_lengths, .ref q_t_riggings, .int t_told, .ref q_t_toldLength, .ref q_t_toldRigging, .ref q_t_toldRoom, .int t_ringN, .ref q_t_ring, .ref q_t_was, .ref q_t_saved, .ref q_t_isThere, .ref q_t_forms, .ref q_t_sizes, .ref q_t_items, .ref q_t_moved, .int t_finding])), (q_t_boxes, .inl (cZ, 240, .inl z_t_boxes))] H locs → lv_has ls 3 [(1, .int x1)] → K z_t_boxes = some (r, o_t_boxes) → W p l e ({ frames := 1, cells := 0, slots := 0, locals := 22 } : Room) s m ([.ref q_t] : List Value).toArray below meth c H locs 0 0 (MQ below (QcI D [(q_t, .inr (7, [.ref q_t_boxes, .ref q_t_next, .int t_done, .ref q_t_left, .ref q_t_pairs, .int t_many, .ref q_t_lengths, .ref q_t_riggings, .int t_told, .ref q_t_toldLength, .ref q_t_toldRigging, .ref q_t_toldRoom, .int t_ringN, .ref q_t_ring, .ref q_t_was, .ref q_t_saved, .ref q_t_isThere, .ref q_t_forms, .ref q_t_sizes, .ref q_t_items, .ref q_t_moved, .int t_finding])), (q_t_boxes, .inl (cZ, 240, .inl o_t_boxes))] A r) ([.ref q_t] : List Value).toArray s 0 0 A) (F0 m 27 ls [])) → ∀ (n : Nat) (x2 : Int32) (w_t_boxes : (Nat → Int32)) (H : Heap) (locs : List Loc) (ls : Array Slot), Wd D A s.heap [(q_t, .inr (7, [.ref q_t_boxes, .ref q_t_next, .int t_done, .ref q_t_left, .ref q_t_pairs, .int t_many, .ref q_t_lengths, .ref q_t_riggings, .int t_told, .ref q_t_toldLength, .ref q_t_toldRigging, .ref q_t_toldRoom, .int t_ringN, .ref q_t_ring, .ref q_t_was, .ref q_t_saved, .ref q_t_isThere, .ref q_t_forms, .ref q_t_sizes, .ref q_t_items, .ref q_t_moved, .int t_finding])), (q_t_boxes, .inl (cZ, 240, .inl w_t_boxes))] H locs → lv_has ls 3 [(0, .ref q_t), (1, .int x1), (2, .int x2)] → L_X7_empty_7 N K n x2 w_t_boxes = some (r, o_t_boxes) → W p l e ({ frames := 1, cells := 0, slots := 0, locals := 22 } : Room) s m ([.ref q_t] : List Value).toArray below meth c H locs 0 0 (MQ below (QcI D [(q_t, .inr (7, [.ref q_t_boxes, .ref q_t_next, .int t_done, .ref q_t_left, .ref q_t_pairs, .int t_many, .ref q_t_lengths, .ref q_t_riggings, .int t_told, .ref q_t_toldLength, .ref q_t_toldRigging, .ref q_t_toldRoom, .int t_ringN, .ref q_t_ring, .ref q_t_was, .ref q_t_saved, .ref q_t_isThere, .ref q_t_forms, .ref q_t_sizes, .ref q_t_items, .ref q_t_moved, .int t_finding])), (q_t_boxes, .inl (cZ, 240, .inl o_t_boxes))] A r) ([.ref q_t] : List Value).toArray s 0 0 A) (F0 m 7 ls []) := by
    intro x1 K hKx n
    induction n with
    | zero =>
      intro x2 w_t_boxes H locs ls hw hl hf
      rw [L_X7_empty_7] at hf
      cases hf
    | succ n ih =>
      intro x2 w_t_boxes H locs ls hw hl hf
      rw [L_X7_empty_7] at hf
      refine lv_iload_n hx hb dX7_empty_7 rfl (lv_at hl 2 rfl) ?_
      refine lv_sipush (v := (240 : Int32)) hx hb dX7_empty_8 (by decide) ?_
      refine lv_icmp_ge (tgt := 27) hx hb dX7_empty_11 (by decide) (fun c3 => ?_) (fun c3 => ?_)
      · have hf := (if_pos c3).symm.trans hf
        exact hKx w_t_boxes _ _ _ hw (lv_sub hl [1] rfl) hf
      · have hf := (if_neg c3).symm.trans hf
        refine lv_aload_n hx hb dX7_empty_14 rfl (lv_at hl 0 rfl) ?_
        refine g_get (ci := 7) (C := RX7) (T := TX7) (N := 22) S hinX7 hK hw 0 0 k7 dX7_empty_15 rfl rfl (by decide) rfl ?_
        refine lv_iload_n hx hb dX7_empty_18 rfl (lv_at hl 2 rfl) ?_
        refine lv_iconst (v := (0 : Int32)) hx hb dX7_empty_19 (by decide) ?_
        obtain ⟨b4, hf⟩ := ck_some hf
        refine g_zast (ws' := [(q_t, .inr (7, [.ref q_t_boxes, .ref q_t_next, .int t_done, .ref q_t_left, .ref q_t_pairs, .int t_many, .ref q_t_lengths, .ref q_t_riggings, .int t_told, .ref q_t_toldLength, .ref q_t_toldRigging, .ref q_t_toldRoom, .int t_ringN, .ref q_t_ring, .ref q_t_was, .ref q_t_saved, .ref q_t_isThere, .ref q_t_forms, .ref q_t_sizes, .ref q_t_items, .ref q_t_moved, .int t_finding])), (q_t_boxes, .inl (cZ, 240, .inl (upd w_t_boxes x2.toNatClampNeg (vp_nar .boolean (0 : Int32)))))]) S hK hw 1 1 b4 dX7_empty_20 rfl rfl rfl (fun H locs hw => ?_)
        refine lv_iinc (v := (x2 + (1 : Int32))) (lv' := [(2, .int (x2 + (1 : Int32))), (0, .ref q_t), (1, .int x1)]) hx hb dX7_empty_21 hl (k := 2) rfl rfl (by decide) rfl (fun ls hl => ?_)
        refine lv_goto (tgt := 7) hx hb dX7_empty_24 (by decide) ?_
        exact ih (x2 + (1 : Int32)) (upd w_t_boxes x2.toNatClampNeg (vp_nar .boolean (0 : Int32))) _ _ _ hw (lv_sub hl [1, 2, 0] rfl) hf
  unfold f_X7_empty at hf
  refine lv_aload_n hx hb dX7_empty_0 rfl (lv_at hl 0 rfl) ?_
  obtain ⟨r1, h2, hf⟩ := bd1_some hf
  refine cl_i (wr := []) (ws' := [(q_t, .inr (7, [.ref q_t_boxes, .ref q_t_next, .int t_done, .ref q_t_left, .ref q_t_pairs, .int t_many, .ref q_t_lengths, .ref q_t_riggings, .int t_told, .ref q_t_toldLength, .ref q_t_toldRigging, .ref q_t_toldRoom, .int t_ringN, .ref q_t_ring, .ref q_t_was, .ref q_t_saved, .ref q_t_isThere, .ref q_t_forms, .ref q_t_sizes, .ref q_t_items, .ref q_t_moved, .int t_finding])), (q_t_boxes, .inl (cZ, 240, .inl t_boxes))]) hA hw [0, 1] [] [0, 1] rfl rfl rfl (by decide) rfl rfl (va_runV (As := []) (rest := []) S (c_X7_balls l D cI cZ cJ cO _ q_t q_t_boxes q_t_next q_t_left q_t_pairs q_t_lengths q_t_riggings q_t_toldLength q_t_toldRigging q_t_toldRoom q_t_ring q_t_was q_t_saved q_t_isThere q_t_forms q_t_sizes q_t_items q_t_moved N t_done t_many t_told t_ringN t_finding t_boxes r1 h2) (cwV 0 hts gX7_empty_X7_balls rfl rfl rfl (by decide +kernel) ⟨Nat.le_of_ble_eq_true rfl, Nat.le_of_ble_eq_true rfl⟩) (pre_V hK hN hw [0, 1] rfl rfl (C := RX7) (T := TX7) (N := 22) (ci := 7) (q0 := 0) rfl rfl) rfl rfl hl.1 rfl (lv_room (Nat.le_of_ble_eq_true rfl)) dX7_empty_1 ⟨Nat.zero_le _, Nat.zero_le _⟩) (fun H locs hw => ?_)
  refine lv_istore_n (lv' := [(1, .int r1), (0, .ref q_t)]) hx hb dX7_empty_4 rfl hl (by decide) rfl (fun ls hl => ?_)
  refine lv_iconst (v := (0 : Int32)) hx hb dX7_empty_5 (by decide) ?_
  refine lv_istore_n (lv' := [(2, .int (0 : Int32)), (1, .int r1), (0, .ref q_t)]) hx hb dX7_empty_6 rfl hl (by decide) rfl (fun ls hl => ?_)
  refine Lp7 r1 _ (fun u5 H locs ls hw hl hf => ?_) N (0 : Int32) t_boxes _ _ _ hw (lv_sub hl [2, 1, 0] rfl) hf
  refine lv_iload_n hx hb dX7_empty_27 rfl (lv_at hl 0 rfl) ?_
  obtain ⟨rfl, rfl⟩ := pr2 (Option.some.inj hf)
  exact rt_i S hr hlk hw dX7_empty_28

def L_X7_takes_4 (N : Nat) (t_next : (Nat → Int32)) (K : Int32 → (Nat → Int32) → Option (Int32 × Int32 × (Nat → Int32))) : Nat → Int32 → Int32 → (Nat → Int32) → Option (Int32 × Int32 × (Nat → Int32))
  | 0, _, _, _ => none
  | n + 1, x1, x2, w_t_boxes => (if (240 : Int32) ≤ x2 then (K x1 w_t_boxes) else (ck (inb x2 240) (ck (inb x2 240) (if (w_t_boxes x2.toNatClampNeg) = (t_next x2.toNatClampNeg) then (ck (inb x2 240) (ck (inb x2 240) (L_X7_takes_4 N t_next K n (x1 + (0 : Int32)) (x2 + (1 : Int32)) (upd w_t_boxes x2.toNatClampNeg (vp_nar .boolean (t_next x2.toNatClampNeg)))))) else (ck (inb x2 240) (ck (inb x2 240) (L_X7_takes_4 N t_next K n (x1 + (1 : Int32)) (x2 + (1 : Int32)) (upd w_t_boxes x2.toNatClampNeg (vp_nar .boolean (t_next x2.toNatClampNeg))))))))))

def f_X7_takes (N : Nat)  (t_done : Int32) (t_boxes : (Nat → Int32)) (t_next : (Nat → Int32)) : Option (Int32 × Int32 × (Nat → Int32)) :=
  (L_X7_takes_4 N t_next (fun y9 u10 => (some (y9, (t_done + (1 : Int32)), u10))) N (0 : Int32) (0 : Int32) t_boxes)

set_option maxHeartbeats 4000000 in
set_option maxRecDepth 100000 in
theorem c_X7_takes (l : Launch) (D : va_G) (cI cZ cJ cO : ClassId) (sz : Nat) (q_t q_t_boxes q_t_next q_t_left q_t_pairs q_t_lengths q_t_riggings q_t_toldLength q_t_toldRigging q_t_toldRoom q_t_ring q_t_was q_t_saved q_t_isThere q_t_forms q_t_sizes q_t_items q_t_moved : Nat) (N : Nat)  (t_done : Int32) (t_many : Int32) (t_told : Int32) (t_ringN : Int32) (t_finding : Int32) (t_boxes : (Nat → Int32)) (t_next : (Nat → Int32)) (r : Int32) (o_t_done : Int32) (o_t_boxes : (Nat → Int32)) (hf : f_X7_takes N t_done t_boxes t_next = some (r, o_t_done, o_t_boxes)) : Met l yX7_takes wsX7_takes ({ frames := 0, cells := 0, slots := 0, locals := 0 }) (PreC D (TY cI cZ cJ cO) [.ref q_t] [(q_t, .inr (7, [.ref q_t_boxes, .ref q_t_next, .int t_done, .ref q_t_left, .ref q_t_pairs, .int t_many, .ref q_t_lengths, .ref q_t_riggings, .int t_told, .ref q_t_toldLength, .ref q_t_toldRigging, .ref q_t_toldRoom, .int t_ringN, .ref q_t_ring, .ref q_t_was, .ref q_t_saved, .ref q_t_isThere, .ref q_t_forms, .ref q_t_sizes, .ref q_t_items, .ref q_t_moved, .int t_finding])), (q_t_boxes, .inl (cZ, 240, .inl t_boxes)), (q_t_next, .inl (cZ, 240, .inl t_next))] sz) (QcI D [(q_t, .inr (7, [.ref q_t_boxes, .ref q_t_next, .int o_t_done, .ref q_t_left, .ref q_t_pairs, .int t_many, .ref q_t_lengths, .ref q_t_riggings, .int t_told, .ref q_t_toldLength, .ref q_t_toldRigging, .ref q_t_toldRoom, .int t_ringN, .ref q_t_ring, .ref q_t_was, .ref q_t_saved, .ref q_t_isThere, .ref q_t_forms, .ref q_t_sizes, .ref q_t_items, .ref q_t_moved, .int t_finding])), (q_t_boxes, .inl (cZ, 240, .inl o_t_boxes)), (q_t_next, .inl (cZ, 240, .inl t_next))] (va_A [(q_t, .inr (7, [.ref q_t_boxes, .ref q_t_next, .int t_done, .ref q_t_left, .ref q_t_pairs, .int t_many, .ref q_t_lengths, .ref q_t_riggings, .int t_told, .ref q_t_toldLength, .ref q_t_toldRigging, .ref q_t_toldRoom, .int t_ringN, .ref q_t_ring, .ref q_t_was, .ref q_t_saved, .ref q_t_isThere, .ref q_t_forms, .ref q_t_sizes, .ref q_t_items, .ref q_t_moved, .int t_finding])), (q_t_boxes, .inl (cZ, 240, .inl t_boxes)), (q_t_next, .inl (cZ, 240, .inl t_next))] sz) r) 0 0 (va_A [(q_t, .inr (7, [.ref q_t_boxes, .ref q_t_next, .int t_done, .ref q_t_left, .ref q_t_pairs, .int t_many, .ref q_t_lengths, .ref q_t_riggings, .int t_told, .ref q_t_toldLength, .ref q_t_toldRigging, .ref q_t_toldRoom, .int t_ringN, .ref q_t_ring, .ref q_t_was, .ref q_t_saved, .ref q_t_isThere, .ref q_t_forms, .ref q_t_sizes, .ref q_t_items, .ref q_t_moved, .int t_finding])), (q_t_boxes, .inl (cZ, 240, .inl t_boxes)), (q_t_next, .inl (cZ, 240, .inl t_next))] sz) := by
  refine ctr (cc := cX7_takes) (maxL := 3) (ret := (some .int)) (by decide) rfl (Nat.le_of_ble_eq_true rfl) ?_
  intro p e s m below meth c S hr hlk hnm hK hN hsz hA hw ls hl
  generalize va_A [(q_t, .inr (7, [.ref q_t_boxes, .ref q_t_next, .int t_done, .ref q_t_left, .ref q_t_pairs, .int t_many, .ref q_t_lengths, .ref q_t_riggings, .int t_told, .ref q_t_toldLength, .ref q_t_toldRigging, .ref q_t_toldRoom, .int t_ringN, .ref q_t_ring, .ref q_t_was, .ref q_t_saved, .ref q_t_isThere, .ref q_t_forms, .ref q_t_sizes, .ref q_t_items, .ref q_t_moved, .int t_finding])), (q_t_boxes, .inl (cZ, 240, .inl t_boxes)), (q_t_next, .inl (cZ, 240, .inl t_next))] sz = A at hA hw ⊢
  have S : CallFix p m c cX7_takes 3 s ([.ref q_t] : List Value).toArray wsX7_takes RX7 := S
  have hx := S.1
  have hb := S.2.1
  have hts := S.2.2.2.2
  have hl : lv_has ls 3 [(0, .ref q_t)] := hl
  have hinX7 : ∀ w ∈ u_ws RX7 TX7 22, w ∈ wsX7_takes := by decide +kernel
  have k7 : Cond.fieldLink RX7 7 "BallBoxesModel" "boxes" "[Z" ∈ wsX7_takes := by decide +kernel
  have k13 : Cond.fieldLink RX7 13 "BallBoxesModel" "next" "[Z" ∈ wsX7_takes := by decide +kernel
  have k74 : Cond.fieldLink RX7 74 "BallBoxesModel" "done" "I" ∈ wsX7_takes := by decide +kernel
  have Lp4 : ∀ (w_t_done : Int32) (K : Int32 → (Nat → Int32) → Option (Int32 × Int32 × (Nat → Int32))), (∀ (z1 : Int32) (z_t_boxes : (Nat → Int32)) (H : Heap) (locs : List Loc) (ls : Array Slot), Wd D A s.heap [(q_t, .inr (7, [.ref q_t_boxes, .ref q_t_next, .int w_t_done, .ref q_t_left, .ref q_t_pairs, .int t_many, .ref q_t_lengths, .ref q_t_riggings, .int t_told, .ref q_t_toldLength, .ref q_t_toldRigging, .ref q_t_toldRoom, .int t_ringN, .ref q_t_ring, .ref q_t_was, .ref q_t_saved, .ref q_t_isThere, .ref q_t_forms, .ref q_t_sizes, .ref q_t_items, .ref q_t_moved, .int t_finding])), (q_t_boxes, .inl (cZ, 240, .inl z_t_boxes)), (q_t_next, .inl (cZ, 240, .inl t_next))] H locs → lv_has ls 3 [(0, .ref q_t), (1, .int z1)] → K z1 z_t_boxes = some (r, o_t_done, o_t_boxes) → W p l e ({ frames := 0, cells := 0, slots := 0, locals := 0 } : Room) s m ([.ref q_t] : List Value).toArray below meth c H locs 0 0 (MQ below (QcI D [(q_t, .inr (7, [.ref q_t_boxes, .ref q_t_next, .int o_t_done, .ref q_t_left, .ref q_t_pairs, .int t_many, .ref q_t_lengths, .ref q_t_riggings, .int t_told, .ref q_t_toldLength, .ref q_t_toldRigging, .ref q_t_toldRoom, .int t_ringN, .ref q_t_ring, .ref q_t_was, .ref q_t_saved, .ref q_t_isThere, .ref q_t_forms, .ref q_t_sizes, .ref q_t_items, .ref q_t_moved, .int t_finding])), (q_t_boxes, .inl (cZ, 240, .inl o_t_boxes)), (q_t_next, .inl (cZ, 240, .inl t_next))] A r) ([.ref q_t] : List Value).toArray s 0 0 A) (F0 m 52 ls [])) → ∀ (n : Nat) (x1 : Int32) (x2 : Int32) (w_t_boxes : (Nat → Int32)) (H : Heap) (locs : List Loc) (ls : Array Slot), Wd D A s.heap [(q_t, .inr (7, [.ref q_t_boxes, .ref q_t_next, .int w_t_done, .ref q_t_left, .ref q_t_pairs, .int t_many, .ref q_t_lengths, .ref q_t_riggings, .int t_told, .ref q_t_toldLength, .ref q_t_toldRigging, .ref q_t_toldRoom, .int t_ringN, .ref q_t_ring, .ref q_t_was, .ref q_t_saved, .ref q_t_isThere, .ref q_t_forms, .ref q_t_sizes, .ref q_t_items, .ref q_t_moved, .int t_finding])), (q_t_boxes, .inl (cZ, 240, .inl w_t_boxes)), (q_t_next, .inl (cZ, 240, .inl t_next))] H locs → lv_has ls 3 [(0, .ref q_t), (1, .int x1), (2, .int x2)] → L_X7_takes_4 N t_next K n x1 x2 w_t_boxes = some (r, o_t_done, o_t_boxes) → W p l e ({ frames := 0, cells := 0, slots := 0, locals := 0 } : Room) s m ([.ref q_t] : List Value).toArray below meth c H locs 0 0 (MQ below (QcI D [(q_t, .inr (7, [.ref q_t_boxes, .ref q_t_next, .int o_t_done, .ref q_t_left, .ref q_t_pairs, .int t_many, .ref q_t_lengths, .ref q_t_riggings, .int t_told, .ref q_t_toldLength, .ref q_t_toldRigging, .ref q_t_toldRoom, .int t_ringN, .ref q_t_ring, .ref q_t_was, .ref q_t_saved, .ref q_t_isThere, .ref q_t_forms, .ref q_t_sizes, .ref q_t_items, .ref q_t_moved, .int t_finding])), (q_t_boxes, .inl (cZ, 240, .inl o_t_boxes)), (q_t_next, .inl (cZ, 240, .inl t_next))] A r) ([.ref q_t] : List Value).toArray s 0 0 A) (F0 m 4 ls []) := by
    intro w_t_done K hKx n
    induction n with
    | zero =>
      intro x1 x2 w_t_boxes H locs ls hw hl hf
      rw [L_X7_takes_4] at hf
      cases hf
    | succ n ih =>
      intro x1 x2 w_t_boxes H locs ls hw hl hf
      rw [L_X7_takes_4] at hf
      refine lv_iload_n hx hb dX7_takes_4 rfl (lv_at hl 2 rfl) ?_
      refine lv_sipush (v := (240 : Int32)) hx hb dX7_takes_5 (by decide) ?_
      refine lv_icmp_ge (tgt := 52) hx hb dX7_takes_8 (by decide) (fun c1 => ?_) (fun c1 => ?_)
      · have hf := (if_pos c1).symm.trans hf
        exact hKx x1 w_t_boxes _ _ _ hw (lv_sub hl [0, 1] rfl) hf
      · have hf := (if_neg c1).symm.trans hf
        refine lv_iload_n hx hb dX7_takes_11 rfl (lv_at hl 1 rfl) ?_
        refine lv_aload_n hx hb dX7_takes_12 rfl (lv_at hl 0 rfl) ?_
        refine g_get (ci := 7) (C := RX7) (T := TX7) (N := 22) S hinX7 hK hw 0 0 k7 dX7_takes_13 rfl rfl (by decide) rfl ?_
        refine lv_iload_n hx hb dX7_takes_16 rfl (lv_at hl 2 rfl) ?_
        obtain ⟨b2, hf⟩ := ck_some hf
        refine g_zald S hK hw 1 1 b2 dX7_takes_17 rfl rfl ?_
        refine lv_aload_n hx hb dX7_takes_18 rfl (lv_at hl 0 rfl) ?_
        refine g_get (ci := 7) (C := RX7) (T := TX7) (N := 22) S hinX7 hK hw 0 1 k13 dX7_takes_19 rfl rfl (by decide) rfl ?_
        refine lv_iload_n hx hb dX7_takes_22 rfl (lv_at hl 2 rfl) ?_
        obtain ⟨b3, hf⟩ := ck_some hf
        refine g_zald S hK hw 2 1 b3 dX7_takes_23 rfl rfl ?_
        refine lv_icmp_ne (tgt := 31) hx hb dX7_takes_24 (by decide) (fun c4 => ?_) (fun c4 => ?_)
        · have hf := (if_neg c4).symm.trans hf
          refine lv_iconst (v := (1 : Int32)) hx hb dX7_takes_31 (by decide) ?_
          refine lv_iadd hx hb dX7_takes_32 ?_
          refine lv_istore_n (lv' := [(1, .int (x1 + (1 : Int32))), (0, .ref q_t), (2, .int x2)]) hx hb dX7_takes_33 rfl hl (by decide) rfl (fun ls hl => ?_)
          refine lv_aload_n hx hb dX7_takes_34 rfl (lv_at hl 1 rfl) ?_
          refine g_get (ci := 7) (C := RX7) (T := TX7) (N := 22) S hinX7 hK hw 0 0 k7 dX7_takes_35 rfl rfl (by decide) rfl ?_
          refine lv_iload_n hx hb dX7_takes_38 rfl (lv_at hl 2 rfl) ?_
          refine lv_aload_n hx hb dX7_takes_39 rfl (lv_at hl 1 rfl) ?_
          refine g_get (ci := 7) (C := RX7) (T := TX7) (N := 22) S hinX7 hK hw 0 1 k13 dX7_takes_40 rfl rfl (by decide) rfl ?_
          refine lv_iload_n hx hb dX7_takes_43 rfl (lv_at hl 2 rfl) ?_
          obtain ⟨b5, hf⟩ := ck_some hf
          refine g_zald S hK hw 2 1 b5 dX7_takes_44 rfl rfl ?_
          obtain ⟨b6, hf⟩ := ck_some hf
          refine g_zast (ws' := [(q_t, .inr (7, [.ref q_t_boxes, .ref q_t_next, .int w_t_done, .ref q_t_left, .ref q_t_pairs, .int t_many, .ref q_t_lengths, .ref q_t_riggings, .int t_told, .ref q_t_toldLength, .ref q_t_toldRigging, .ref q_t_toldRoom, .int t_ringN, .ref q_t_ring, .ref q_t_was, .ref q_t_saved, .ref q_t_isThere, .ref q_t_forms, .ref q_t_sizes, .ref q_t_items, .ref q_t_moved, .int t_finding])), (q_t_boxes, .inl (cZ, 240, .inl (upd w_t_boxes x2.toNatClampNeg (vp_nar .boolean (t_next x2.toNatClampNeg))))), (q_t_next, .inl (cZ, 240, .inl t_next))]) S hK hw 1 1 b6 dX7_takes_45 rfl rfl rfl (fun H locs hw => ?_)
          refine lv_iinc (v := (x2 + (1 : Int32))) (lv' := [(2, .int (x2 + (1 : Int32))), (1, .int (x1 + (1 : Int32))), (0, .ref q_t)]) hx hb dX7_takes_46 hl (k := 2) rfl rfl (by decide) rfl (fun ls hl => ?_)
          refine lv_goto (tgt := 4) hx hb dX7_takes_49 (by decide) ?_
          exact ih (x1 + (1 : Int32)) (x2 + (1 : Int32)) (upd w_t_boxes x2.toNatClampNeg (vp_nar .boolean (t_next x2.toNatClampNeg))) _ _ _ hw (lv_sub hl [2, 1, 0] rfl) hf
        · have hf := (if_pos c4).symm.trans hf
          refine lv_iconst (v := (0 : Int32)) hx hb dX7_takes_27 (by decide) ?_
          refine lv_goto (tgt := 32) hx hb dX7_takes_28 (by decide) ?_
          refine lv_iadd hx hb dX7_takes_32 ?_
          refine lv_istore_n (lv' := [(1, .int (x1 + (0 : Int32))), (0, .ref q_t), (2, .int x2)]) hx hb dX7_takes_33 rfl hl (by decide) rfl (fun ls hl => ?_)
          refine lv_aload_n hx hb dX7_takes_34 rfl (lv_at hl 1 rfl) ?_
          refine g_get (ci := 7) (C := RX7) (T := TX7) (N := 22) S hinX7 hK hw 0 0 k7 dX7_takes_35 rfl rfl (by decide) rfl ?_
          refine lv_iload_n hx hb dX7_takes_38 rfl (lv_at hl 2 rfl) ?_
          refine lv_aload_n hx hb dX7_takes_39 rfl (lv_at hl 1 rfl) ?_
          refine g_get (ci := 7) (C := RX7) (T := TX7) (N := 22) S hinX7 hK hw 0 1 k13 dX7_takes_40 rfl rfl (by decide) rfl ?_
          refine lv_iload_n hx hb dX7_takes_43 rfl (lv_at hl 2 rfl) ?_
          obtain ⟨b7, hf⟩ := ck_some hf
          refine g_zald S hK hw 2 1 b7 dX7_takes_44 rfl rfl ?_
          obtain ⟨b8, hf⟩ := ck_some hf
          refine g_zast (ws' := [(q_t, .inr (7, [.ref q_t_boxes, .ref q_t_next, .int w_t_done, .ref q_t_left, .ref q_t_pairs, .int t_many, .ref q_t_lengths, .ref q_t_riggings, .int t_told, .ref q_t_toldLength, .ref q_t_toldRigging, .ref q_t_toldRoom, .int t_ringN, .ref q_t_ring, .ref q_t_was, .ref q_t_saved, .ref q_t_isThere, .ref q_t_forms, .ref q_t_sizes, .ref q_t_items, .ref q_t_moved, .int t_finding])), (q_t_boxes, .inl (cZ, 240, .inl (upd w_t_boxes x2.toNatClampNeg (vp_nar .boolean (t_next x2.toNatClampNeg))))), (q_t_next, .inl (cZ, 240, .inl t_next))]) S hK hw 1 1 b8 dX7_takes_45 rfl rfl rfl (fun H locs hw => ?_)
          refine lv_iinc (v := (x2 + (1 : Int32))) (lv' := [(2, .int (x2 + (1 : Int32))), (1, .int (x1 + (0 : Int32))), (0, .ref q_t)]) hx hb dX7_takes_46 hl (k := 2) rfl rfl (by decide) rfl (fun ls hl => ?_)
          refine lv_goto (tgt := 4) hx hb dX7_takes_49 (by decide) ?_
          exact ih (x1 + (0 : Int32)) (x2 + (1 : Int32)) (upd w_t_boxes x2.toNatClampNeg (vp_nar .boolean (t_next x2.toNatClampNeg))) _ _ _ hw (lv_sub hl [2, 1, 0] rfl) hf
  unfold f_X7_takes at hf
  refine lv_iconst (v := (0 : Int32)) hx hb dX7_takes_0 (by decide) ?_
  refine lv_istore_n (lv' := [(1, .int (0 : Int32)), (0, .ref q_t)]) hx hb dX7_takes_1 rfl hl (by decide) rfl (fun ls hl => ?_)
  refine lv_iconst (v := (0 : Int32)) hx hb dX7_takes_2 (by decide) ?_
  refine lv_istore_n (lv' := [(2, .int (0 : Int32)), (1, .int (0 : Int32)), (0, .ref q_t)]) hx hb dX7_takes_3 rfl hl (by decide) rfl (fun ls hl => ?_)
  refine Lp4 t_done _ (fun y9 u10 H locs ls hw hl hf => ?_) N (0 : Int32) (0 : Int32) t_boxes _ _ _ hw (lv_sub hl [2, 1, 0] rfl) hf
  refine lv_aload_n hx hb dX7_takes_52 rfl (lv_at hl 0 rfl) ?_
  refine lv_dup hx hb dX7_takes_53 rfl ?_
  refine g_get (ci := 7) (C := RX7) (T := TX7) (N := 22) S hinX7 hK hw 0 2 k74 dX7_takes_54 rfl rfl (by decide) rfl ?_
  refine lv_iconst (v := (1 : Int32)) hx hb dX7_takes_57 (by decide) ?_
  refine lv_iadd hx hb dX7_takes_58 ?_
  refine g_put (ci := 7) (C := RX7) (T := TX7) (N := 22) (ws' := [(q_t, .inr (7, [.ref q_t_boxes, .ref q_t_next, .int (t_done + (1 : Int32)), .ref q_t_left, .ref q_t_pairs, .int t_many, .ref q_t_lengths, .ref q_t_riggings, .int t_told, .ref q_t_toldLength, .ref q_t_toldRigging, .ref q_t_toldRoom, .int t_ringN, .ref q_t_ring, .ref q_t_was, .ref q_t_saved, .ref q_t_isThere, .ref q_t_forms, .ref q_t_sizes, .ref q_t_items, .ref q_t_moved, .int t_finding])), (q_t_boxes, .inl (cZ, 240, .inl u10)), (q_t_next, .inl (cZ, 240, .inl t_next))]) S hinX7 tyX7 tyX7_ok nmX7 hK hw 0 2 k74 dX7_takes_59 rfl rfl (by decide) rfl rfl rfl (Nat.le_of_ble_eq_true rfl) rfl (fun H locs hw => ?_)
  refine lv_iload_n hx hb dX7_takes_62 rfl (lv_at hl 1 rfl) ?_
  obtain ⟨rfl, rfl, rfl⟩ := pr3 (Option.some.inj hf)
  exact rt_i S hr hlk hw dX7_takes_63

def L_X7_goes_18 (N : Nat) (x1 : Int32) (x2 : Int32) (w_t_boxes : (Nat → Int32)) (K : Int32 → (Nat → Int32) → Option (Int32 × Int32 × (Nat → Int32) × (Nat → Int32))) : Nat → Int32 → Int32 → (Nat → Int32) → Option (Int32 × Int32 × (Nat → Int32) × (Nat → Int32))
  | 0, _, _, _ => none
  | n + 1, x3, x4, w_t_next => (if (240 : Int32) ≤ x4 then (K x3 w_t_next) else (if x2 = (0 : Int32) then (ck (inb x4 240) (ck (inb x4 240) (ck (inb x4 240) (if (w_t_boxes x4.toNatClampNeg) = (0 : Int32) then (ck (inb x4 240) (if (w_t_boxes x4.toNatClampNeg) = (0 : Int32) then (if x3 ≤ (0 : Int32) then (L_X7_goes_18 N x1 x2 w_t_boxes K n x3 (x4 + (1 : Int32)) (upd w_t_next x4.toNatClampNeg (vp_nar .boolean (w_t_boxes x4.toNatClampNeg)))) else (ck (inb x4 240) (L_X7_goes_18 N x1 x2 w_t_boxes K n (x3 + (-1 : Int32)) (x4 + (1 : Int32)) (upd (upd w_t_next x4.toNatClampNeg (vp_nar .boolean (w_t_boxes x4.toNatClampNeg))) x4.toNatClampNeg (vp_nar .boolean (1 : Int32)))))) else (L_X7_goes_18 N x1 x2 w_t_boxes K n x3 (x4 + (1 : Int32)) (upd w_t_next x4.toNatClampNeg (vp_nar .boolean (w_t_boxes x4.toNatClampNeg)))))) else (if x1 ≤ x3 then (ck (inb x4 240) (if (w_t_boxes x4.toNatClampNeg) = (0 : Int32) then (if x3 ≤ (0 : Int32) then (L_X7_goes_18 N x1 x2 w_t_boxes K n x3 (x4 + (1 : Int32)) (upd w_t_next x4.toNatClampNeg (vp_nar .boolean (w_t_boxes x4.toNatClampNeg)))) else (ck (inb x4 240) (L_X7_goes_18 N x1 x2 w_t_boxes K n (x3 + (-1 : Int32)) (x4 + (1 : Int32)) (upd (upd w_t_next x4.toNatClampNeg (vp_nar .boolean (w_t_boxes x4.toNatClampNeg))) x4.toNatClampNeg (vp_nar .boolean (1 : Int32)))))) else (L_X7_goes_18 N x1 x2 w_t_boxes K n x3 (x4 + (1 : Int32)) (upd w_t_next x4.toNatClampNeg (vp_nar .boolean (w_t_boxes x4.toNatClampNeg)))))) else (ck (inb x4 240) (L_X7_goes_18 N x1 x2 w_t_boxes K n (x3 + (1 : Int32)) (x4 + (1 : Int32)) (upd (upd w_t_next x4.toNatClampNeg (vp_nar .boolean (w_t_boxes x4.toNatClampNeg))) x4.toNatClampNeg (vp_nar .boolean (0 : Int32)))))))))) else (ck (inb ((239 : Int32) - x4) 240) (ck (inb ((239 : Int32) - x4) 240) (ck (inb ((239 : Int32) - x4) 240) (if (w_t_boxes ((239 : Int32) - x4).toNatClampNeg) = (0 : Int32) then (ck (inb ((239 : Int32) - x4) 240) (if (w_t_boxes ((239 : Int32) - x4).toNatClampNeg) = (0 : Int32) then (if x3 ≤ (0 : Int32) then (L_X7_goes_18 N x1 x2 w_t_boxes K n x3 (x4 + (1 : Int32)) (upd w_t_next ((239 : Int32) - x4).toNatClampNeg (vp_nar .boolean (w_t_boxes ((239 : Int32) - x4).toNatClampNeg)))) else (ck (inb ((239 : Int32) - x4) 240) (L_X7_goes_18 N x1 x2 w_t_boxes K n (x3 + (-1 : Int32)) (x4 + (1 : Int32)) (upd (upd w_t_next ((239 : Int32) - x4).toNatClampNeg (vp_nar .boolean (w_t_boxes ((239 : Int32) - x4).toNatClampNeg))) ((239 : Int32) - x4).toNatClampNeg (vp_nar .boolean (1 : Int32)))))) else (L_X7_goes_18 N x1 x2 w_t_boxes K n x3 (x4 + (1 : Int32)) (upd w_t_next ((239 : Int32) - x4).toNatClampNeg (vp_nar .boolean (w_t_boxes ((239 : Int32) - x4).toNatClampNeg)))))) else (if x1 ≤ x3 then (ck (inb ((239 : Int32) - x4) 240) (if (w_t_boxes ((239 : Int32) - x4).toNatClampNeg) = (0 : Int32) then (if x3 ≤ (0 : Int32) then (L_X7_goes_18 N x1 x2 w_t_boxes K n x3 (x4 + (1 : Int32)) (upd w_t_next ((239 : Int32) - x4).toNatClampNeg (vp_nar .boolean (w_t_boxes ((239 : Int32) - x4).toNatClampNeg)))) else (ck (inb ((239 : Int32) - x4) 240) (L_X7_goes_18 N x1 x2 w_t_boxes K n (x3 + (-1 : Int32)) (x4 + (1 : Int32)) (upd (upd w_t_next ((239 : Int32) - x4).toNatClampNeg (vp_nar .boolean (w_t_boxes ((239 : Int32) - x4).toNatClampNeg))) ((239 : Int32) - x4).toNatClampNeg (vp_nar .boolean (1 : Int32)))))) else (L_X7_goes_18 N x1 x2 w_t_boxes K n x3 (x4 + (1 : Int32)) (upd w_t_next ((239 : Int32) - x4).toNatClampNeg (vp_nar .boolean (w_t_boxes ((239 : Int32) - x4).toNatClampNeg)))))) else (ck (inb ((239 : Int32) - x4) 240) (L_X7_goes_18 N x1 x2 w_t_boxes K n (x3 + (1 : Int32)) (x4 + (1 : Int32)) (upd (upd w_t_next ((239 : Int32) - x4).toNatClampNeg (vp_nar .boolean (w_t_boxes ((239 : Int32) - x4).toNatClampNeg))) ((239 : Int32) - x4).toNatClampNeg (vp_nar .boolean (0 : Int32))))))))))))

def f_X7_goes (N : Nat) (p1 : Int32) (p2 : Int32) (t_done : Int32) (t_boxes : (Nat → Int32)) (t_next : (Nat → Int32)) : Option (Int32 × Int32 × (Nat → Int32) × (Nat → Int32)) :=
  (bd1 (f_X7_in N p1 (1 : Int32) (50 : Int32)) (fun r1 => (if r1 = (0 : Int32) then (some ((-2 : Int32), t_done, t_boxes, t_next)) else (L_X7_goes_18 N p1 p2 t_boxes (fun y34 u35 => (if y34 ≤ (0 : Int32) then (bd3 (f_X7_takes N t_done t_boxes u35) (fun r37 u38 u39 => (some (r37, u38, u39, u35)))) else (some ((-4 : Int32), t_done, t_boxes, u35)))) N (0 : Int32) (0 : Int32) t_next))))

set_option maxHeartbeats 4000000 in
set_option maxRecDepth 100000 in
theorem c_X7_goes (l : Launch) (D : va_G) (cI cZ cJ cO : ClassId) (sz : Nat) (q_t q_t_boxes q_t_next q_t_left q_t_pairs q_t_lengths q_t_riggings q_t_toldLength q_t_toldRigging q_t_toldRoom q_t_ring q_t_was q_t_saved q_t_isThere q_t_forms q_t_sizes q_t_items q_t_moved : Nat) (N : Nat) (p1 : Int32) (p2 : Int32) (t_done : Int32) (t_many : Int32) (t_told : Int32) (t_ringN : Int32) (t_finding : Int32) (t_boxes : (Nat → Int32)) (t_next : (Nat → Int32)) (r : Int32) (o_t_done : Int32) (o_t_boxes : (Nat → Int32)) (o_t_next : (Nat → Int32)) (hf : f_X7_goes N p1 p2 t_done t_boxes t_next = some (r, o_t_done, o_t_boxes, o_t_next)) : Met l yX7_goes wsX7_goes ({ frames := 1, cells := 0, slots := 0, locals := 22 }) (PreC D (TY cI cZ cJ cO) [.ref q_t, .int p1, .int p2] [(q_t, .inr (7, [.ref q_t_boxes, .ref q_t_next, .int t_done, .ref q_t_left, .ref q_t_pairs, .int t_many, .ref q_t_lengths, .ref q_t_riggings, .int t_told, .ref q_t_toldLength, .ref q_t_toldRigging, .ref q_t_toldRoom, .int t_ringN, .ref q_t_ring, .ref q_t_was, .ref q_t_saved, .ref q_t_isThere, .ref q_t_forms, .ref q_t_sizes, .ref q_t_items, .ref q_t_moved, .int t_finding])), (q_t_boxes, .inl (cZ, 240, .inl t_boxes)), (q_t_next, .inl (cZ, 240, .inl t_next))] sz) (QcI D [(q_t, .inr (7, [.ref q_t_boxes, .ref q_t_next, .int o_t_done, .ref q_t_left, .ref q_t_pairs, .int t_many, .ref q_t_lengths, .ref q_t_riggings, .int t_told, .ref q_t_toldLength, .ref q_t_toldRigging, .ref q_t_toldRoom, .int t_ringN, .ref q_t_ring, .ref q_t_was, .ref q_t_saved, .ref q_t_isThere, .ref q_t_forms, .ref q_t_sizes, .ref q_t_items, .ref q_t_moved, .int t_finding])), (q_t_boxes, .inl (cZ, 240, .inl o_t_boxes)), (q_t_next, .inl (cZ, 240, .inl o_t_next))] (va_A [(q_t, .inr (7, [.ref q_t_boxes, .ref q_t_next, .int t_done, .ref q_t_left, .ref q_t_pairs, .int t_many, .ref q_t_lengths, .ref q_t_riggings, .int t_told, .ref q_t_toldLength, .ref q_t_toldRigging, .ref q_t_toldRoom, .int t_ringN, .ref q_t_ring, .ref q_t_was, .ref q_t_saved, .ref q_t_isThere, .ref q_t_forms, .ref q_t_sizes, .ref q_t_items, .ref q_t_moved, .int t_finding])), (q_t_boxes, .inl (cZ, 240, .inl t_boxes)), (q_t_next, .inl (cZ, 240, .inl t_next))] sz) r) 0 0 (va_A [(q_t, .inr (7, [.ref q_t_boxes, .ref q_t_next, .int t_done, .ref q_t_left, .ref q_t_pairs, .int t_many, .ref q_t_lengths, .ref q_t_riggings, .int t_told, .ref q_t_toldLength, .ref q_t_toldRigging, .ref q_t_toldRoom, .int t_ringN, .ref q_t_ring, .ref q_t_was, .ref q_t_saved, .ref q_t_isThere, .ref q_t_forms, .ref q_t_sizes, .ref q_t_items, .ref q_t_moved, .int t_finding])), (q_t_boxes, .inl (cZ, 240, .inl t_boxes)), (q_t_next, .inl (cZ, 240, .inl t_next))] sz) := by
  refine ctr (cc := cX7_goes) (maxL := 6) (ret := (some .int)) (by decide) rfl (Nat.le_of_ble_eq_true rfl) ?_
  intro p e s m below meth c S hr hlk hnm hK hN hsz hA hw ls hl
  generalize va_A [(q_t, .inr (7, [.ref q_t_boxes, .ref q_t_next, .int t_done, .ref q_t_left, .ref q_t_pairs, .int t_many, .ref q_t_lengths, .ref q_t_riggings, .int t_told, .ref q_t_toldLength, .ref q_t_toldRigging, .ref q_t_toldRoom, .int t_ringN, .ref q_t_ring, .ref q_t_was, .ref q_t_saved, .ref q_t_isThere, .ref q_t_forms, .ref q_t_sizes, .ref q_t_items, .ref q_t_moved, .int t_finding])), (q_t_boxes, .inl (cZ, 240, .inl t_boxes)), (q_t_next, .inl (cZ, 240, .inl t_next))] sz = A at hA hw ⊢
  have S : CallFix p m c cX7_goes 6 s ([.ref q_t, .int p1, .int p2] : List Value).toArray wsX7_goes RX7 := S
  have hx := S.1
  have hb := S.2.1
  have hts := S.2.2.2.2
  have hl : lv_has ls 6 [(0, .ref q_t), (1, .int p1), (2, .int p2)] := hl
  have hinX7 : ∀ w ∈ u_ws RX7 TX7 22, w ∈ wsX7_goes := by decide +kernel
  have k7 : Cond.fieldLink RX7 7 "BallBoxesModel" "boxes" "[Z" ∈ wsX7_goes := by decide +kernel
  have k13 : Cond.fieldLink RX7 13 "BallBoxesModel" "next" "[Z" ∈ wsX7_goes := by decide +kernel
  have Lp18 : ∀ (x1 : Int32) (x2 : Int32) (w_t_done : Int32) (w_t_boxes : (Nat → Int32)) (K : Int32 → (Nat → Int32) → Option (Int32 × Int32 × (Nat → Int32) × (Nat → Int32))), (∀ (z3 : Int32) (z_t_next : (Nat → Int32)) (H : Heap) (locs : List Loc) (ls : Array Slot), Wd D A s.heap [(q_t, .inr (7, [.ref q_t_boxes, .ref q_t_next, .int w_t_done, .ref q_t_left, .ref q_t_pairs, .int t_many, .ref q_t_lengths, .ref q_t_riggings, .int t_told, .ref q_t_toldLength, .ref q_t_toldRigging, .ref q_t_toldRoom, .int t_ringN, .ref q_t_ring, .ref q_t_was, .ref q_t_saved, .ref q_t_isThere, .ref q_t_forms, .ref q_t_sizes, .ref q_t_items, .ref q_t_moved, .int t_finding])), (q_t_boxes, .inl (cZ, 240, .inl w_t_boxes)), (q_t_next, .inl (cZ, 240, .inl z_t_next))] H locs → lv_has ls 6 [(0, .ref q_t), (3, .int z3)] → K z3 z_t_next = some (r, o_t_done, o_t_boxes, o_t_next) → W p l e ({ frames := 1, cells := 0, slots := 0, locals := 22 } : Room) s m ([.ref q_t, .int p1, .int p2] : List Value).toArray below meth c H locs 0 0 (MQ below (QcI D [(q_t, .inr (7, [.ref q_t_boxes, .ref q_t_next, .int o_t_done, .ref q_t_left, .ref q_t_pairs, .int t_many, .ref q_t_lengths, .ref q_t_riggings, .int t_told, .ref q_t_toldLength, .ref q_t_toldRigging, .ref q_t_toldRoom, .int t_ringN, .ref q_t_ring, .ref q_t_was, .ref q_t_saved, .ref q_t_isThere, .ref q_t_forms, .ref q_t_sizes, .ref q_t_items, .ref q_t_moved, .int t_finding])), (q_t_boxes, .inl (cZ, 240, .inl o_t_boxes)), (q_t_next, .inl (cZ, 240, .inl o_t_next))] A r) ([.ref q_t, .int p1, .int p2] : List Value).toArray s 0 0 A) (F0 m 117 ls [])) → ∀ (n : Nat) (x3 : Int32) (x4 : Int32) (w_t_next : (Nat → Int32)) (H : Heap) (locs : List Loc) (ls : Array Slot), Wd D A s.heap [(q_t, .inr (7, [.ref q_t_boxes, .ref q_t_next, .int w_t_done, .ref q_t_left, .ref q_t_pairs, .int t_many, .ref q_t_lengths, .ref q_t_riggings, .int t_told, .ref q_t_toldLength, .ref q_t_toldRigging, .ref q_t_toldRoom, .int t_ringN, .ref q_t_ring, .ref q_t_was, .ref q_t_saved, .ref q_t_isThere, .ref q_t_forms, .ref q_t_sizes, .ref q_t_items, .ref q_t_moved, .int t_finding])), (q_t_boxes, .inl (cZ, 240, .inl w_t_boxes)), (q_t_next, .inl (cZ, 240, .inl w_t_next))] H locs → lv_has ls 6 [(0, .ref q_t), (1, .int x1), (2, .int x2), (3, .int x3), (4, .int x4)] → L_X7_goes_18 N x1 x2 w_t_boxes K n x3 x4 w_t_next = some (r, o_t_done, o_t_boxes, o_t_next) → W p l e ({ frames := 1, cells := 0, slots := 0, locals := 22 } : Room) s m ([.ref q_t, .int p1, .int p2] : List Value).toArray below meth c H locs 0 0 (MQ below (QcI D [(q_t, .inr (7, [.ref q_t_boxes, .ref q_t_next, .int o_t_done, .ref q_t_left, .ref q_t_pairs, .int t_many, .ref q_t_lengths, .ref q_t_riggings, .int t_told, .ref q_t_toldLength, .ref q_t_toldRigging, .ref q_t_toldRoom, .int t_ringN, .ref q_t_ring, .ref q_t_was, .ref q_t_saved, .ref q_t_isThere, .ref q_t_forms, .ref q_t_sizes, .ref q_t_items, .ref q_t_moved, .int t_finding])), (q_t_boxes, .inl (cZ, 240, .inl o_t_boxes)), (q_t_next, .inl (cZ, 240, .inl o_t_next))] A r) ([.ref q_t, .int p1, .int p2] : List Value).toArray s 0 0 A) (F0 m 18 ls []) := by
    intro x1 x2 w_t_done w_t_boxes K hKx n
    induction n with
    | zero =>
      intro x3 x4 w_t_next H locs ls hw hl hf
      rw [L_X7_goes_18] at hf
      cases hf
    | succ n ih =>
      intro x3 x4 w_t_next H locs ls hw hl hf
      rw [L_X7_goes_18] at hf
      refine lv_iload hx hb dX7_goes_18 (lv_at hl 4 rfl) ?_
      refine lv_sipush (v := (240 : Int32)) hx hb dX7_goes_20 (by decide) ?_
      refine lv_icmp_ge (tgt := 117) hx hb dX7_goes_23 (by decide) (fun c4 => ?_) (fun c4 => ?_)
      · have hf := (if_pos c4).symm.trans hf
        exact hKx x3 w_t_next _ _ _ hw (lv_sub hl [0, 3] rfl) hf
      · have hf := (if_neg c4).symm.trans hf
        refine lv_iload_n hx hb dX7_goes_26 rfl (lv_at hl 2 rfl) ?_
        refine lv_if_eq (tgt := 39) hx hb dX7_goes_27 (by decide) (fun c5 => ?_) (fun c5 => ?_)
        · have hf := (if_pos c5).symm.trans hf
          refine lv_iload hx hb dX7_goes_39 (lv_at hl 4 rfl) ?_
          refine lv_istore (lv' := [(5, .int x4), (0, .ref q_t), (1, .int x1), (2, .int x2), (3, .int x3), (4, .int x4)]) hx hb dX7_goes_41 hl (by decide) rfl (fun ls hl => ?_)
          refine lv_aload_n hx hb dX7_goes_43 rfl (lv_at hl 1 rfl) ?_
          refine g_get (ci := 7) (C := RX7) (T := TX7) (N := 22) S hinX7 hK hw 0 1 k13 dX7_goes_44 rfl rfl (by decide) rfl ?_
          refine lv_iload hx hb dX7_goes_47 (lv_at hl 0 rfl) ?_
          refine lv_aload_n hx hb dX7_goes_49 rfl (lv_at hl 1 rfl) ?_
          refine g_get (ci := 7) (C := RX7) (T := TX7) (N := 22) S hinX7 hK hw 0 0 k7 dX7_goes_50 rfl rfl (by decide) rfl ?_
          refine lv_iload hx hb dX7_goes_53 (lv_at hl 0 rfl) ?_
          obtain ⟨b6, hf⟩ := ck_some hf
          refine g_zald S hK hw 1 1 b6 dX7_goes_55 rfl rfl ?_
          obtain ⟨b7, hf⟩ := ck_some hf
          refine g_zast (ws' := [(q_t, .inr (7, [.ref q_t_boxes, .ref q_t_next, .int w_t_done, .ref q_t_left, .ref q_t_pairs, .int t_many, .ref q_t_lengths, .ref q_t_riggings, .int t_told, .ref q_t_toldLength, .ref q_t_toldRigging, .ref q_t_toldRoom, .int t_ringN, .ref q_t_ring, .ref q_t_was, .ref q_t_saved, .ref q_t_isThere, .ref q_t_forms, .ref q_t_sizes, .ref q_t_items, .ref q_t_moved, .int t_finding])), (q_t_boxes, .inl (cZ, 240, .inl w_t_boxes)), (q_t_next, .inl (cZ, 240, .inl (upd w_t_next x4.toNatClampNeg (vp_nar .boolean (w_t_boxes x4.toNatClampNeg)))))]) S hK hw 2 1 b7 dX7_goes_56 rfl rfl rfl (fun H locs hw => ?_)
          refine lv_aload_n hx hb dX7_goes_57 rfl (lv_at hl 1 rfl) ?_
          refine g_get (ci := 7) (C := RX7) (T := TX7) (N := 22) S hinX7 hK hw 0 0 k7 dX7_goes_58 rfl rfl (by decide) rfl ?_
          refine lv_iload hx hb dX7_goes_61 (lv_at hl 0 rfl) ?_
          obtain ⟨b8, hf⟩ := ck_some hf
          refine g_zald S hK hw 1 1 b8 dX7_goes_63 rfl rfl ?_
          refine lv_if_eq (tgt := 86) hx hb dX7_goes_64 (by decide) (fun c9 => ?_) (fun c9 => ?_)
          · have hf := (if_pos c9).symm.trans hf
            refine lv_aload_n hx hb dX7_goes_86 rfl (lv_at hl 1 rfl) ?_
            refine g_get (ci := 7) (C := RX7) (T := TX7) (N := 22) S hinX7 hK hw 0 0 k7 dX7_goes_87 rfl rfl (by decide) rfl ?_
            refine lv_iload hx hb dX7_goes_90 (lv_at hl 0 rfl) ?_
            obtain ⟨b10, hf⟩ := ck_some hf
            refine g_zald S hK hw 1 1 b10 dX7_goes_92 rfl rfl ?_
            refine lv_if_ne (tgt := 111) hx hb dX7_goes_93 (by decide) (fun c11 => ?_) (fun c11 => ?_)
            · have hf := (if_neg c11).symm.trans hf
              refine lv_iinc (v := (x4 + (1 : Int32))) (lv' := [(4, .int (x4 + (1 : Int32))), (5, .int x4), (0, .ref q_t), (1, .int x1), (2, .int x2), (3, .int x3)]) hx hb dX7_goes_111 hl (k := 5) rfl rfl (by decide) rfl (fun ls hl => ?_)
              refine lv_goto (tgt := 18) hx hb dX7_goes_114 (by decide) ?_
              exact ih x3 (x4 + (1 : Int32)) (upd w_t_next x4.toNatClampNeg (vp_nar .boolean (w_t_boxes x4.toNatClampNeg))) _ _ _ hw (lv_sub hl [2, 3, 4, 5, 0] rfl) hf
            · have hf := (if_pos c11).symm.trans hf
              refine lv_iload_n hx hb dX7_goes_96 rfl (lv_at hl 4 rfl) ?_
              refine lv_if_le (tgt := 111) hx hb dX7_goes_97 (by decide) (fun c12 => ?_) (fun c12 => ?_)
              · have hf := (if_pos c12).symm.trans hf
                refine lv_iinc (v := (x4 + (1 : Int32))) (lv' := [(4, .int (x4 + (1 : Int32))), (5, .int x4), (0, .ref q_t), (1, .int x1), (2, .int x2), (3, .int x3)]) hx hb dX7_goes_111 hl (k := 5) rfl rfl (by decide) rfl (fun ls hl => ?_)
                refine lv_goto (tgt := 18) hx hb dX7_goes_114 (by decide) ?_
                exact ih x3 (x4 + (1 : Int32)) (upd w_t_next x4.toNatClampNeg (vp_nar .boolean (w_t_boxes x4.toNatClampNeg))) _ _ _ hw (lv_sub hl [2, 3, 4, 5, 0] rfl) hf
              · have hf := (if_neg c12).symm.trans hf
                refine lv_aload_n hx hb dX7_goes_100 rfl (lv_at hl 1 rfl) ?_
                refine g_get (ci := 7) (C := RX7) (T := TX7) (N := 22) S hinX7 hK hw 0 1 k13 dX7_goes_101 rfl rfl (by decide) rfl ?_
                refine lv_iload hx hb dX7_goes_104 (lv_at hl 0 rfl) ?_
                refine lv_iconst (v := (1 : Int32)) hx hb dX7_goes_106 (by decide) ?_
                obtain ⟨b13, hf⟩ := ck_some hf
                refine g_zast (ws' := [(q_t, .inr (7, [.ref q_t_boxes, .ref q_t_next, .int w_t_done, .ref q_t_left, .ref q_t_pairs, .int t_many, .ref q_t_lengths, .ref q_t_riggings, .int t_told, .ref q_t_toldLength, .ref q_t_toldRigging, .ref q_t_toldRoom, .int t_ringN, .ref q_t_ring, .ref q_t_was, .ref q_t_saved, .ref q_t_isThere, .ref q_t_forms, .ref q_t_sizes, .ref q_t_items, .ref q_t_moved, .int t_finding])), (q_t_boxes, .inl (cZ, 240, .inl w_t_boxes)), (q_t_next, .inl (cZ, 240, .inl (upd (upd w_t_next x4.toNatClampNeg (vp_nar .boolean (w_t_boxes x4.toNatClampNeg))) x4.toNatClampNeg (vp_nar .boolean (1 : Int32)))))]) S hK hw 2 1 b13 dX7_goes_107 rfl rfl rfl (fun H locs hw => ?_)
                refine lv_iinc (v := (x3 + (-1 : Int32))) (lv' := [(3, .int (x3 + (-1 : Int32))), (5, .int x4), (0, .ref q_t), (1, .int x1), (2, .int x2), (4, .int x4)]) hx hb dX7_goes_108 hl (k := 4) rfl rfl (by decide) rfl (fun ls hl => ?_)
                refine lv_iinc (v := (x4 + (1 : Int32))) (lv' := [(4, .int (x4 + (1 : Int32))), (3, .int (x3 + (-1 : Int32))), (5, .int x4), (0, .ref q_t), (1, .int x1), (2, .int x2)]) hx hb dX7_goes_111 hl (k := 5) rfl rfl (by decide) rfl (fun ls hl => ?_)
                refine lv_goto (tgt := 18) hx hb dX7_goes_114 (by decide) ?_
                exact ih (x3 + (-1 : Int32)) (x4 + (1 : Int32)) (upd (upd w_t_next x4.toNatClampNeg (vp_nar .boolean (w_t_boxes x4.toNatClampNeg))) x4.toNatClampNeg (vp_nar .boolean (1 : Int32))) _ _ _ hw (lv_sub hl [3, 4, 5, 1, 0] rfl) hf
          · have hf := (if_neg c9).symm.trans hf
            refine lv_iload_n hx hb dX7_goes_67 rfl (lv_at hl 4 rfl) ?_
            refine lv_iload_n hx hb dX7_goes_68 rfl (lv_at hl 2 rfl) ?_
            refine lv_icmp_ge (tgt := 86) hx hb dX7_goes_69 (by decide) (fun c14 => ?_) (fun c14 => ?_)
            · have hf := (if_pos c14).symm.trans hf
              refine lv_aload_n hx hb dX7_goes_86 rfl (lv_at hl 1 rfl) ?_
              refine g_get (ci := 7) (C := RX7) (T := TX7) (N := 22) S hinX7 hK hw 0 0 k7 dX7_goes_87 rfl rfl (by decide) rfl ?_
              refine lv_iload hx hb dX7_goes_90 (lv_at hl 0 rfl) ?_
              obtain ⟨b15, hf⟩ := ck_some hf
              refine g_zald S hK hw 1 1 b15 dX7_goes_92 rfl rfl ?_
              refine lv_if_ne (tgt := 111) hx hb dX7_goes_93 (by decide) (fun c16 => ?_) (fun c16 => ?_)
              · have hf := (if_neg c16).symm.trans hf
                refine lv_iinc (v := (x4 + (1 : Int32))) (lv' := [(4, .int (x4 + (1 : Int32))), (5, .int x4), (0, .ref q_t), (1, .int x1), (2, .int x2), (3, .int x3)]) hx hb dX7_goes_111 hl (k := 5) rfl rfl (by decide) rfl (fun ls hl => ?_)
                refine lv_goto (tgt := 18) hx hb dX7_goes_114 (by decide) ?_
                exact ih x3 (x4 + (1 : Int32)) (upd w_t_next x4.toNatClampNeg (vp_nar .boolean (w_t_boxes x4.toNatClampNeg))) _ _ _ hw (lv_sub hl [2, 3, 4, 5, 0] rfl) hf
              · have hf := (if_pos c16).symm.trans hf
                refine lv_iload_n hx hb dX7_goes_96 rfl (lv_at hl 4 rfl) ?_
                refine lv_if_le (tgt := 111) hx hb dX7_goes_97 (by decide) (fun c17 => ?_) (fun c17 => ?_)
                · have hf := (if_pos c17).symm.trans hf
                  refine lv_iinc (v := (x4 + (1 : Int32))) (lv' := [(4, .int (x4 + (1 : Int32))), (5, .int x4), (0, .ref q_t), (1, .int x1), (2, .int x2), (3, .int x3)]) hx hb dX7_goes_111 hl (k := 5) rfl rfl (by decide) rfl (fun ls hl => ?_)
                  refine lv_goto (tgt := 18) hx hb dX7_goes_114 (by decide) ?_
                  exact ih x3 (x4 + (1 : Int32)) (upd w_t_next x4.toNatClampNeg (vp_nar .boolean (w_t_boxes x4.toNatClampNeg))) _ _ _ hw (lv_sub hl [2, 3, 4, 5, 0] rfl) hf
                · have hf := (if_neg c17).symm.trans hf
                  refine lv_aload_n hx hb dX7_goes_100 rfl (lv_at hl 1 rfl) ?_
                  refine g_get (ci := 7) (C := RX7) (T := TX7) (N := 22) S hinX7 hK hw 0 1 k13 dX7_goes_101 rfl rfl (by decide) rfl ?_
                  refine lv_iload hx hb dX7_goes_104 (lv_at hl 0 rfl) ?_
                  refine lv_iconst (v := (1 : Int32)) hx hb dX7_goes_106 (by decide) ?_
                  obtain ⟨b18, hf⟩ := ck_some hf
                  refine g_zast (ws' := [(q_t, .inr (7, [.ref q_t_boxes, .ref q_t_next, .int w_t_done, .ref q_t_left, .ref q_t_pairs, .int t_many, .ref q_t_lengths, .ref q_t_riggings, .int t_told, .ref q_t_toldLength, .ref q_t_toldRigging, .ref q_t_toldRoom, .int t_ringN, .ref q_t_ring, .ref q_t_was, .ref q_t_saved, .ref q_t_isThere, .ref q_t_forms, .ref q_t_sizes, .ref q_t_items, .ref q_t_moved, .int t_finding])), (q_t_boxes, .inl (cZ, 240, .inl w_t_boxes)), (q_t_next, .inl (cZ, 240, .inl (upd (upd w_t_next x4.toNatClampNeg (vp_nar .boolean (w_t_boxes x4.toNatClampNeg))) x4.toNatClampNeg (vp_nar .boolean (1 : Int32)))))]) S hK hw 2 1 b18 dX7_goes_107 rfl rfl rfl (fun H locs hw => ?_)
                  refine lv_iinc (v := (x3 + (-1 : Int32))) (lv' := [(3, .int (x3 + (-1 : Int32))), (5, .int x4), (0, .ref q_t), (1, .int x1), (2, .int x2), (4, .int x4)]) hx hb dX7_goes_108 hl (k := 4) rfl rfl (by decide) rfl (fun ls hl => ?_)
                  refine lv_iinc (v := (x4 + (1 : Int32))) (lv' := [(4, .int (x4 + (1 : Int32))), (3, .int (x3 + (-1 : Int32))), (5, .int x4), (0, .ref q_t), (1, .int x1), (2, .int x2)]) hx hb dX7_goes_111 hl (k := 5) rfl rfl (by decide) rfl (fun ls hl => ?_)
                  refine lv_goto (tgt := 18) hx hb dX7_goes_114 (by decide) ?_
                  exact ih (x3 + (-1 : Int32)) (x4 + (1 : Int32)) (upd (upd w_t_next x4.toNatClampNeg (vp_nar .boolean (w_t_boxes x4.toNatClampNeg))) x4.toNatClampNeg (vp_nar .boolean (1 : Int32))) _ _ _ hw (lv_sub hl [3, 4, 5, 1, 0] rfl) hf
            · have hf := (if_neg c14).symm.trans hf
              refine lv_aload_n hx hb dX7_goes_72 rfl (lv_at hl 1 rfl) ?_
              refine g_get (ci := 7) (C := RX7) (T := TX7) (N := 22) S hinX7 hK hw 0 1 k13 dX7_goes_73 rfl rfl (by decide) rfl ?_
              refine lv_iload hx hb dX7_goes_76 (lv_at hl 0 rfl) ?_
              refine lv_iconst (v := (0 : Int32)) hx hb dX7_goes_78 (by decide) ?_
              obtain ⟨b19, hf⟩ := ck_some hf
              refine g_zast (ws' := [(q_t, .inr (7, [.ref q_t_boxes, .ref q_t_next, .int w_t_done, .ref q_t_left, .ref q_t_pairs, .int t_many, .ref q_t_lengths, .ref q_t_riggings, .int t_told, .ref q_t_toldLength, .ref q_t_toldRigging, .ref q_t_toldRoom, .int t_ringN, .ref q_t_ring, .ref q_t_was, .ref q_t_saved, .ref q_t_isThere, .ref q_t_forms, .ref q_t_sizes, .ref q_t_items, .ref q_t_moved, .int t_finding])), (q_t_boxes, .inl (cZ, 240, .inl w_t_boxes)), (q_t_next, .inl (cZ, 240, .inl (upd (upd w_t_next x4.toNatClampNeg (vp_nar .boolean (w_t_boxes x4.toNatClampNeg))) x4.toNatClampNeg (vp_nar .boolean (0 : Int32)))))]) S hK hw 2 1 b19 dX7_goes_79 rfl rfl rfl (fun H locs hw => ?_)
              refine lv_iinc (v := (x3 + (1 : Int32))) (lv' := [(3, .int (x3 + (1 : Int32))), (5, .int x4), (0, .ref q_t), (1, .int x1), (2, .int x2), (4, .int x4)]) hx hb dX7_goes_80 hl (k := 4) rfl rfl (by decide) rfl (fun ls hl => ?_)
              refine lv_goto (tgt := 111) hx hb dX7_goes_83 (by decide) ?_
              refine lv_iinc (v := (x4 + (1 : Int32))) (lv' := [(4, .int (x4 + (1 : Int32))), (3, .int (x3 + (1 : Int32))), (5, .int x4), (0, .ref q_t), (1, .int x1), (2, .int x2)]) hx hb dX7_goes_111 hl (k := 5) rfl rfl (by decide) rfl (fun ls hl => ?_)
              refine lv_goto (tgt := 18) hx hb dX7_goes_114 (by decide) ?_
              exact ih (x3 + (1 : Int32)) (x4 + (1 : Int32)) (upd (upd w_t_next x4.toNatClampNeg (vp_nar .boolean (w_t_boxes x4.toNatClampNeg))) x4.toNatClampNeg (vp_nar .boolean (0 : Int32))) _ _ _ hw (lv_sub hl [3, 4, 5, 1, 0] rfl) hf
        · have hf := (if_neg c5).symm.trans hf
          refine lv_sipush (v := (239 : Int32)) hx hb dX7_goes_30 (by decide) ?_
          refine lv_iload hx hb dX7_goes_33 (lv_at hl 4 rfl) ?_
          refine lv_isub hx hb dX7_goes_35 ?_
          refine lv_goto (tgt := 41) hx hb dX7_goes_36 (by decide) ?_
          refine lv_istore (lv' := [(5, .int ((239 : Int32) - x4)), (0, .ref q_t), (1, .int x1), (2, .int x2), (3, .int x3), (4, .int x4)]) hx hb dX7_goes_41 hl (by decide) rfl (fun ls hl => ?_)
          refine lv_aload_n hx hb dX7_goes_43 rfl (lv_at hl 1 rfl) ?_
          refine g_get (ci := 7) (C := RX7) (T := TX7) (N := 22) S hinX7 hK hw 0 1 k13 dX7_goes_44 rfl rfl (by decide) rfl ?_
          refine lv_iload hx hb dX7_goes_47 (lv_at hl 0 rfl) ?_
          refine lv_aload_n hx hb dX7_goes_49 rfl (lv_at hl 1 rfl) ?_
          refine g_get (ci := 7) (C := RX7) (T := TX7) (N := 22) S hinX7 hK hw 0 0 k7 dX7_goes_50 rfl rfl (by decide) rfl ?_
          refine lv_iload hx hb dX7_goes_53 (lv_at hl 0 rfl) ?_
          obtain ⟨b20, hf⟩ := ck_some hf
          refine g_zald S hK hw 1 1 b20 dX7_goes_55 rfl rfl ?_
          obtain ⟨b21, hf⟩ := ck_some hf
          refine g_zast (ws' := [(q_t, .inr (7, [.ref q_t_boxes, .ref q_t_next, .int w_t_done, .ref q_t_left, .ref q_t_pairs, .int t_many, .ref q_t_lengths, .ref q_t_riggings, .int t_told, .ref q_t_toldLength, .ref q_t_toldRigging, .ref q_t_toldRoom, .int t_ringN, .ref q_t_ring, .ref q_t_was, .ref q_t_saved, .ref q_t_isThere, .ref q_t_forms, .ref q_t_sizes, .ref q_t_items, .ref q_t_moved, .int t_finding])), (q_t_boxes, .inl (cZ, 240, .inl w_t_boxes)), (q_t_next, .inl (cZ, 240, .inl (upd w_t_next ((239 : Int32) - x4).toNatClampNeg (vp_nar .boolean (w_t_boxes ((239 : Int32) - x4).toNatClampNeg)))))]) S hK hw 2 1 b21 dX7_goes_56 rfl rfl rfl (fun H locs hw => ?_)
          refine lv_aload_n hx hb dX7_goes_57 rfl (lv_at hl 1 rfl) ?_
          refine g_get (ci := 7) (C := RX7) (T := TX7) (N := 22) S hinX7 hK hw 0 0 k7 dX7_goes_58 rfl rfl (by decide) rfl ?_
          refine lv_iload hx hb dX7_goes_61 (lv_at hl 0 rfl) ?_
          obtain ⟨b22, hf⟩ := ck_some hf
          refine g_zald S hK hw 1 1 b22 dX7_goes_63 rfl rfl ?_
          refine lv_if_eq (tgt := 86) hx hb dX7_goes_64 (by decide) (fun c23 => ?_) (fun c23 => ?_)
          · have hf := (if_pos c23).symm.trans hf
            refine lv_aload_n hx hb dX7_goes_86 rfl (lv_at hl 1 rfl) ?_
            refine g_get (ci := 7) (C := RX7) (T := TX7) (N := 22) S hinX7 hK hw 0 0 k7 dX7_goes_87 rfl rfl (by decide) rfl ?_
            refine lv_iload hx hb dX7_goes_90 (lv_at hl 0 rfl) ?_
            obtain ⟨b24, hf⟩ := ck_some hf
            refine g_zald S hK hw 1 1 b24 dX7_goes_92 rfl rfl ?_
            refine lv_if_ne (tgt := 111) hx hb dX7_goes_93 (by decide) (fun c25 => ?_) (fun c25 => ?_)
            · have hf := (if_neg c25).symm.trans hf
              refine lv_iinc (v := (x4 + (1 : Int32))) (lv' := [(4, .int (x4 + (1 : Int32))), (5, .int ((239 : Int32) - x4)), (0, .ref q_t), (1, .int x1), (2, .int x2), (3, .int x3)]) hx hb dX7_goes_111 hl (k := 5) rfl rfl (by decide) rfl (fun ls hl => ?_)
              refine lv_goto (tgt := 18) hx hb dX7_goes_114 (by decide) ?_
              exact ih x3 (x4 + (1 : Int32)) (upd w_t_next ((239 : Int32) - x4).toNatClampNeg (vp_nar .boolean (w_t_boxes ((239 : Int32) - x4).toNatClampNeg))) _ _ _ hw (lv_sub hl [2, 3, 4, 5, 0] rfl) hf
            · have hf := (if_pos c25).symm.trans hf
              refine lv_iload_n hx hb dX7_goes_96 rfl (lv_at hl 4 rfl) ?_
              refine lv_if_le (tgt := 111) hx hb dX7_goes_97 (by decide) (fun c26 => ?_) (fun c26 => ?_)
              · have hf := (if_pos c26).symm.trans hf
                refine lv_iinc (v := (x4 + (1 : Int32))) (lv' := [(4, .int (x4 + (1 : Int32))), (5, .int ((239 : Int32) - x4)), (0, .ref q_t), (1, .int x1), (2, .int x2), (3, .int x3)]) hx hb dX7_goes_111 hl (k := 5) rfl rfl (by decide) rfl (fun ls hl => ?_)
                refine lv_goto (tgt := 18) hx hb dX7_goes_114 (by decide) ?_
                exact ih x3 (x4 + (1 : Int32)) (upd w_t_next ((239 : Int32) - x4).toNatClampNeg (vp_nar .boolean (w_t_boxes ((239 : Int32) - x4).toNatClampNeg))) _ _ _ hw (lv_sub hl [2, 3, 4, 5, 0] rfl) hf
              · have hf := (if_neg c26).symm.trans hf
                refine lv_aload_n hx hb dX7_goes_100 rfl (lv_at hl 1 rfl) ?_
                refine g_get (ci := 7) (C := RX7) (T := TX7) (N := 22) S hinX7 hK hw 0 1 k13 dX7_goes_101 rfl rfl (by decide) rfl ?_
                refine lv_iload hx hb dX7_goes_104 (lv_at hl 0 rfl) ?_
                refine lv_iconst (v := (1 : Int32)) hx hb dX7_goes_106 (by decide) ?_
                obtain ⟨b27, hf⟩ := ck_some hf
                refine g_zast (ws' := [(q_t, .inr (7, [.ref q_t_boxes, .ref q_t_next, .int w_t_done, .ref q_t_left, .ref q_t_pairs, .int t_many, .ref q_t_lengths, .ref q_t_riggings, .int t_told, .ref q_t_toldLength, .ref q_t_toldRigging, .ref q_t_toldRoom, .int t_ringN, .ref q_t_ring, .ref q_t_was, .ref q_t_saved, .ref q_t_isThere, .ref q_t_forms, .ref q_t_sizes, .ref q_t_items, .ref q_t_moved, .int t_finding])), (q_t_boxes, .inl (cZ, 240, .inl w_t_boxes)), (q_t_next, .inl (cZ, 240, .inl (upd (upd w_t_next ((239 : Int32) - x4).toNatClampNeg (vp_nar .boolean (w_t_boxes ((239 : Int32) - x4).toNatClampNeg))) ((239 : Int32) - x4).toNatClampNeg (vp_nar .boolean (1 : Int32)))))]) S hK hw 2 1 b27 dX7_goes_107 rfl rfl rfl (fun H locs hw => ?_)
                refine lv_iinc (v := (x3 + (-1 : Int32))) (lv' := [(3, .int (x3 + (-1 : Int32))), (5, .int ((239 : Int32) - x4)), (0, .ref q_t), (1, .int x1), (2, .int x2), (4, .int x4)]) hx hb dX7_goes_108 hl (k := 4) rfl rfl (by decide) rfl (fun ls hl => ?_)
                refine lv_iinc (v := (x4 + (1 : Int32))) (lv' := [(4, .int (x4 + (1 : Int32))), (3, .int (x3 + (-1 : Int32))), (5, .int ((239 : Int32) - x4)), (0, .ref q_t), (1, .int x1), (2, .int x2)]) hx hb dX7_goes_111 hl (k := 5) rfl rfl (by decide) rfl (fun ls hl => ?_)
                refine lv_goto (tgt := 18) hx hb dX7_goes_114 (by decide) ?_
                exact ih (x3 + (-1 : Int32)) (x4 + (1 : Int32)) (upd (upd w_t_next ((239 : Int32) - x4).toNatClampNeg (vp_nar .boolean (w_t_boxes ((239 : Int32) - x4).toNatClampNeg))) ((239 : Int32) - x4).toNatClampNeg (vp_nar .boolean (1 : Int32))) _ _ _ hw (lv_sub hl [3, 4, 5, 1, 0] rfl) hf
          · have hf := (if_neg c23).symm.trans hf
            refine lv_iload_n hx hb dX7_goes_67 rfl (lv_at hl 4 rfl) ?_
            refine lv_iload_n hx hb dX7_goes_68 rfl (lv_at hl 2 rfl) ?_
            refine lv_icmp_ge (tgt := 86) hx hb dX7_goes_69 (by decide) (fun c28 => ?_) (fun c28 => ?_)
            · have hf := (if_pos c28).symm.trans hf
              refine lv_aload_n hx hb dX7_goes_86 rfl (lv_at hl 1 rfl) ?_
              refine g_get (ci := 7) (C := RX7) (T := TX7) (N := 22) S hinX7 hK hw 0 0 k7 dX7_goes_87 rfl rfl (by decide) rfl ?_
              refine lv_iload hx hb dX7_goes_90 (lv_at hl 0 rfl) ?_
              obtain ⟨b29, hf⟩ := ck_some hf
              refine g_zald S hK hw 1 1 b29 dX7_goes_92 rfl rfl ?_
              refine lv_if_ne (tgt := 111) hx hb dX7_goes_93 (by decide) (fun c30 => ?_) (fun c30 => ?_)
              · have hf := (if_neg c30).symm.trans hf
                refine lv_iinc (v := (x4 + (1 : Int32))) (lv' := [(4, .int (x4 + (1 : Int32))), (5, .int ((239 : Int32) - x4)), (0, .ref q_t), (1, .int x1), (2, .int x2), (3, .int x3)]) hx hb dX7_goes_111 hl (k := 5) rfl rfl (by decide) rfl (fun ls hl => ?_)
                refine lv_goto (tgt := 18) hx hb dX7_goes_114 (by decide) ?_
                exact ih x3 (x4 + (1 : Int32)) (upd w_t_next ((239 : Int32) - x4).toNatClampNeg (vp_nar .boolean (w_t_boxes ((239 : Int32) - x4).toNatClampNeg))) _ _ _ hw (lv_sub hl [2, 3, 4, 5, 0] rfl) hf
              · have hf := (if_pos c30).symm.trans hf
                refine lv_iload_n hx hb dX7_goes_96 rfl (lv_at hl 4 rfl) ?_
                refine lv_if_le (tgt := 111) hx hb dX7_goes_97 (by decide) (fun c31 => ?_) (fun c31 => ?_)
                · have hf := (if_pos c31).symm.trans hf
                  refine lv_iinc (v := (x4 + (1 : Int32))) (lv' := [(4, .int (x4 + (1 : Int32))), (5, .int ((239 : Int32) - x4)), (0, .ref q_t), (1, .int x1), (2, .int x2), (3, .int x3)]) hx hb dX7_goes_111 hl (k := 5) rfl rfl (by decide) rfl (fun ls hl => ?_)
                  refine lv_goto (tgt := 18) hx hb dX7_goes_114 (by decide) ?_
                  exact ih x3 (x4 + (1 : Int32)) (upd w_t_next ((239 : Int32) - x4).toNatClampNeg (vp_nar .boolean (w_t_boxes ((239 : Int32) - x4).toNatClampNeg))) _ _ _ hw (lv_sub hl [2, 3, 4, 5, 0] rfl) hf
                · have hf := (if_neg c31).symm.trans hf
                  refine lv_aload_n hx hb dX7_goes_100 rfl (lv_at hl 1 rfl) ?_
                  refine g_get (ci := 7) (C := RX7) (T := TX7) (N := 22) S hinX7 hK hw 0 1 k13 dX7_goes_101 rfl rfl (by decide) rfl ?_
                  refine lv_iload hx hb dX7_goes_104 (lv_at hl 0 rfl) ?_
                  refine lv_iconst (v := (1 : Int32)) hx hb dX7_goes_106 (by decide) ?_
                  obtain ⟨b32, hf⟩ := ck_some hf
                  refine g_zast (ws' := [(q_t, .inr (7, [.ref q_t_boxes, .ref q_t_next, .int w_t_done, .ref q_t_left, .ref q_t_pairs, .int t_many, .ref q_t_lengths, .ref q_t_riggings, .int t_told, .ref q_t_toldLength, .ref q_t_toldRigging, .ref q_t_toldRoom, .int t_ringN, .ref q_t_ring, .ref q_t_was, .ref q_t_saved, .ref q_t_isThere, .ref q_t_forms, .ref q_t_sizes, .ref q_t_items, .ref q_t_moved, .int t_finding])), (q_t_boxes, .inl (cZ, 240, .inl w_t_boxes)), (q_t_next, .inl (cZ, 240, .inl (upd (upd w_t_next ((239 : Int32) - x4).toNatClampNeg (vp_nar .boolean (w_t_boxes ((239 : Int32) - x4).toNatClampNeg))) ((239 : Int32) - x4).toNatClampNeg (vp_nar .boolean (1 : Int32)))))]) S hK hw 2 1 b32 dX7_goes_107 rfl rfl rfl (fun H locs hw => ?_)
                  refine lv_iinc (v := (x3 + (-1 : Int32))) (lv' := [(3, .int (x3 + (-1 : Int32))), (5, .int ((239 : Int32) - x4)), (0, .ref q_t), (1, .int x1), (2, .int x2), (4, .int x4)]) hx hb dX7_goes_108 hl (k := 4) rfl rfl (by decide) rfl (fun ls hl => ?_)
                  refine lv_iinc (v := (x4 + (1 : Int32))) (lv' := [(4, .int (x4 + (1 : Int32))), (3, .int (x3 + (-1 : Int32))), (5, .int ((239 : Int32) - x4)), (0, .ref q_t), (1, .int x1), (2, .int x2)]) hx hb dX7_goes_111 hl (k := 5) rfl rfl (by decide) rfl (fun ls hl => ?_)
                  refine lv_goto (tgt := 18) hx hb dX7_goes_114 (by decide) ?_
                  exact ih (x3 + (-1 : Int32)) (x4 + (1 : Int32)) (upd (upd w_t_next ((239 : Int32) - x4).toNatClampNeg (vp_nar .boolean (w_t_boxes ((239 : Int32) - x4).toNatClampNeg))) ((239 : Int32) - x4).toNatClampNeg (vp_nar .boolean (1 : Int32))) _ _ _ hw (lv_sub hl [3, 4, 5, 1, 0] rfl) hf
            · have hf := (if_neg c28).symm.trans hf
              refine lv_aload_n hx hb dX7_goes_72 rfl (lv_at hl 1 rfl) ?_
              refine g_get (ci := 7) (C := RX7) (T := TX7) (N := 22) S hinX7 hK hw 0 1 k13 dX7_goes_73 rfl rfl (by decide) rfl ?_
              refine lv_iload hx hb dX7_goes_76 (lv_at hl 0 rfl) ?_
              refine lv_iconst (v := (0 : Int32)) hx hb dX7_goes_78 (by decide) ?_
              obtain ⟨b33, hf⟩ := ck_some hf
              refine g_zast (ws' := [(q_t, .inr (7, [.ref q_t_boxes, .ref q_t_next, .int w_t_done, .ref q_t_left, .ref q_t_pairs, .int t_many, .ref q_t_lengths, .ref q_t_riggings, .int t_told, .ref q_t_toldLength, .ref q_t_toldRigging, .ref q_t_toldRoom, .int t_ringN, .ref q_t_ring, .ref q_t_was, .ref q_t_saved, .ref q_t_isThere, .ref q_t_forms, .ref q_t_sizes, .ref q_t_items, .ref q_t_moved, .int t_finding])), (q_t_boxes, .inl (cZ, 240, .inl w_t_boxes)), (q_t_next, .inl (cZ, 240, .inl (upd (upd w_t_next ((239 : Int32) - x4).toNatClampNeg (vp_nar .boolean (w_t_boxes ((239 : Int32) - x4).toNatClampNeg))) ((239 : Int32) - x4).toNatClampNeg (vp_nar .boolean (0 : Int32)))))]) S hK hw 2 1 b33 dX7_goes_79 rfl rfl rfl (fun H locs hw => ?_)
              refine lv_iinc (v := (x3 + (1 : Int32))) (lv' := [(3, .int (x3 + (1 : Int32))), (5, .int ((239 : Int32) - x4)), (0, .ref q_t), (1, .int x1), (2, .int x2), (4, .int x4)]) hx hb dX7_goes_80 hl (k := 4) rfl rfl (by decide) rfl (fun ls hl => ?_)
              refine lv_goto (tgt := 111) hx hb dX7_goes_83 (by decide) ?_
              refine lv_iinc (v := (x4 + (1 : Int32))) (lv' := [(4, .int (x4 + (1 : Int32))), (3, .int (x3 + (1 : Int32))), (5, .int ((239 : Int32) - x4)), (0, .ref q_t), (1, .int x1), (2, .int x2)]) hx hb dX7_goes_111 hl (k := 5) rfl rfl (by decide) rfl (fun ls hl => ?_)
              refine lv_goto (tgt := 18) hx hb dX7_goes_114 (by decide) ?_
              exact ih (x3 + (1 : Int32)) (x4 + (1 : Int32)) (upd (upd w_t_next ((239 : Int32) - x4).toNatClampNeg (vp_nar .boolean (w_t_boxes ((239 : Int32) - x4).toNatClampNeg))) ((239 : Int32) - x4).toNatClampNeg (vp_nar .boolean (0 : Int32))) _ _ _ hw (lv_sub hl [3, 4, 5, 1, 0] rfl) hf
  unfold f_X7_goes at hf
  refine lv_iload_n hx hb dX7_goes_0 rfl (lv_at hl 1 rfl) ?_
  refine lv_iconst (v := (1 : Int32)) hx hb dX7_goes_1 (by decide) ?_
  refine lv_bipush (v := (50 : Int32)) hx hb dX7_goes_2 (by decide) ?_
  obtain ⟨r1, h2, hf⟩ := bd1_some hf
  refine cl_i (wr := [(q_t, .inr (7, [.ref q_t_boxes, .ref q_t_next, .int t_done, .ref q_t_left, .ref q_t_pairs, .int t_many, .ref q_t_lengths, .ref q_t_riggings, .int t_told, .ref q_t_toldLength, .ref q_t_toldRigging, .ref q_t_toldRoom, .int t_ringN, .ref q_t_ring, .ref q_t_was, .ref q_t_saved, .ref q_t_isThere, .ref q_t_forms, .ref q_t_sizes, .ref q_t_items, .ref q_t_moved, .int t_finding])), (q_t_boxes, .inl (cZ, 240, .inl t_boxes)), (q_t_next, .inl (cZ, 240, .inl t_next))]) (ws' := [(q_t, .inr (7, [.ref q_t_boxes, .ref q_t_next, .int t_done, .ref q_t_left, .ref q_t_pairs, .int t_many, .ref q_t_lengths, .ref q_t_riggings, .int t_told, .ref q_t_toldLength, .ref q_t_toldRigging, .ref q_t_toldRoom, .int t_ringN, .ref q_t_ring, .ref q_t_was, .ref q_t_saved, .ref q_t_isThere, .ref q_t_forms, .ref q_t_sizes, .ref q_t_items, .ref q_t_moved, .int t_finding])), (q_t_boxes, .inl (cZ, 240, .inl t_boxes)), (q_t_next, .inl (cZ, 240, .inl t_next))]) hA hw [] [0, 1, 2] [0, 1, 2] rfl rfl rfl (by decide) rfl rfl (va_runS (As := [.int p1, .int (1 : Int32), .int (50 : Int32)]) (rest := []) S (c_X7_in l D cI cZ cJ cO _ N p1 (1 : Int32) (50 : Int32) r1 h2) (va_cwS 3 hts gX7_goes_X7_in rfl rfl rfl (by decide +kernel) ⟨Nat.le_of_ble_eq_true rfl, Nat.le_of_ble_eq_true rfl⟩) (pre_S hK hN hw [] rfl rfl) rfl rfl hl.1 rfl (lv_room (Nat.le_of_ble_eq_true rfl)) dX7_goes_4 ⟨Nat.zero_le _, Nat.zero_le _⟩) (fun H locs hw => ?_)
  refine lv_if_ne (tgt := 13) hx hb dX7_goes_7 (by decide) (fun c3 => ?_) (fun c3 => ?_)
  · have hf := (if_neg c3).symm.trans hf
    refine lv_iconst (v := (0 : Int32)) hx hb dX7_goes_13 (by decide) ?_
    refine lv_istore_n (lv' := [(3, .int (0 : Int32)), (0, .ref q_t), (1, .int p1), (2, .int p2)]) hx hb dX7_goes_14 rfl hl (by decide) rfl (fun ls hl => ?_)
    refine lv_iconst (v := (0 : Int32)) hx hb dX7_goes_15 (by decide) ?_
    refine lv_istore (lv' := [(4, .int (0 : Int32)), (3, .int (0 : Int32)), (0, .ref q_t), (1, .int p1), (2, .int p2)]) hx hb dX7_goes_16 hl (by decide) rfl (fun ls hl => ?_)
    refine Lp18 p1 p2 t_done t_boxes _ (fun y34 u35 H locs ls hw hl hf => ?_) N (0 : Int32) (0 : Int32) t_next _ _ _ hw (lv_sub hl [2, 3, 4, 1, 0] rfl) hf
    refine lv_iload_n hx hb dX7_goes_117 rfl (lv_at hl 1 rfl) ?_
    refine lv_if_le (tgt := 126) hx hb dX7_goes_118 (by decide) (fun c36 => ?_) (fun c36 => ?_)
    · have hf := (if_pos c36).symm.trans hf
      refine lv_aload_n hx hb dX7_goes_126 rfl (lv_at hl 0 rfl) ?_
      obtain ⟨r37, u38, u39, h40, hf⟩ := bd3_some hf
      refine cl_i (wr := []) (ws' := [(q_t, .inr (7, [.ref q_t_boxes, .ref q_t_next, .int u38, .ref q_t_left, .ref q_t_pairs, .int t_many, .ref q_t_lengths, .ref q_t_riggings, .int t_told, .ref q_t_toldLength, .ref q_t_toldRigging, .ref q_t_toldRoom, .int t_ringN, .ref q_t_ring, .ref q_t_was, .ref q_t_saved, .ref q_t_isThere, .ref q_t_forms, .ref q_t_sizes, .ref q_t_items, .ref q_t_moved, .int t_finding])), (q_t_boxes, .inl (cZ, 240, .inl u39)), (q_t_next, .inl (cZ, 240, .inl u35))]) hA hw [0, 1, 2] [] [0, 1, 2] rfl rfl rfl (by decide) rfl rfl (va_runV (As := []) (rest := []) S (c_X7_takes l D cI cZ cJ cO _ q_t q_t_boxes q_t_next q_t_left q_t_pairs q_t_lengths q_t_riggings q_t_toldLength q_t_toldRigging q_t_toldRoom q_t_ring q_t_was q_t_saved q_t_isThere q_t_forms q_t_sizes q_t_items q_t_moved N t_done t_many t_told t_ringN t_finding t_boxes u35 r37 u38 u39 h40) (cwV 0 hts gX7_goes_X7_takes rfl rfl rfl (by decide +kernel) ⟨Nat.le_of_ble_eq_true rfl, Nat.le_of_ble_eq_true rfl⟩) (pre_V hK hN hw [0, 1, 2] rfl rfl (C := RX7) (T := TX7) (N := 22) (ci := 7) (q0 := 0) rfl rfl) rfl rfl hl.1 rfl (lv_room (Nat.le_of_ble_eq_true rfl)) dX7_goes_127 ⟨Nat.zero_le _, Nat.zero_le _⟩) (fun H locs hw => ?_)
      obtain ⟨rfl, rfl, rfl, rfl⟩ := pr4 (Option.some.inj hf)
      exact rt_i S hr hlk hw dX7_goes_130
    · have hf := (if_neg c36).symm.trans hf
      refine lv_bipush (v := (-4 : Int32)) hx hb dX7_goes_121 (by decide) ?_
      refine lv_goto (tgt := 130) hx hb dX7_goes_123 (by decide) ?_
      obtain ⟨rfl, rfl, rfl, rfl⟩ := pr4 (Option.some.inj hf)
      exact rt_i S hr hlk hw dX7_goes_130
  · have hf := (if_pos c3).symm.trans hf
    refine lv_bipush (v := (-2 : Int32)) hx hb dX7_goes_10 (by decide) ?_
    obtain ⟨rfl, rfl, rfl, rfl⟩ := pr4 (Option.some.inj hf)
    exact rt_i S hr hlk hw dX7_goes_12

def f_X7_step (N : Nat) (p1 : Int32) (t_done : Int32) (t_boxes : (Nat → Int32)) (t_next : (Nat → Int32)) : Option (Int32 × Int32 × (Nat → Int32) × (Nat → Int32)) :=
  (bd4 (f_X7_goes N p1 (0 : Int32) t_done t_boxes t_next) (fun r1 u2 u3 u4 => (some (r1, u2, u3, u4))))

set_option maxHeartbeats 4000000 in
set_option maxRecDepth 100000 in
theorem c_X7_step (l : Launch) (D : va_G) (cI cZ cJ cO : ClassId) (sz : Nat) (q_t q_t_boxes q_t_next q_t_left q_t_pairs q_t_lengths q_t_riggings q_t_toldLength q_t_toldRigging q_t_toldRoom q_t_ring q_t_was q_t_saved q_t_isThere q_t_forms q_t_sizes q_t_items q_t_moved : Nat) (N : Nat) (p1 : Int32) (t_done : Int32) (t_many : Int32) (t_told : Int32) (t_ringN : Int32) (t_finding : Int32) (t_boxes : (Nat → Int32)) (t_next : (Nat → Int32)) (r : Int32) (o_t_done : Int32) (o_t_boxes : (Nat → Int32)) (o_t_next : (Nat → Int32)) (hf : f_X7_step N p1 t_done t_boxes t_next = some (r, o_t_done, o_t_boxes, o_t_next)) : Met l yX7_step wsX7_step ({ frames := 2, cells := 0, slots := 0, locals := 47 }) (PreC D (TY cI cZ cJ cO) [.ref q_t, .int p1] [(q_t, .inr (7, [.ref q_t_boxes, .ref q_t_next, .int t_done, .ref q_t_left, .ref q_t_pairs, .int t_many, .ref q_t_lengths, .ref q_t_riggings, .int t_told, .ref q_t_toldLength, .ref q_t_toldRigging, .ref q_t_toldRoom, .int t_ringN, .ref q_t_ring, .ref q_t_was, .ref q_t_saved, .ref q_t_isThere, .ref q_t_forms, .ref q_t_sizes, .ref q_t_items, .ref q_t_moved, .int t_finding])), (q_t_boxes, .inl (cZ, 240, .inl t_boxes)), (q_t_next, .inl (cZ, 240, .inl t_next))] sz) (QcI D [(q_t, .inr (7, [.ref q_t_boxes, .ref q_t_next, .int o_t_done, .ref q_t_left, .ref q_t_pairs, .int t_many, .ref q_t_lengths, .ref q_t_riggings, .int t_told, .ref q_t_toldLength, .ref q_t_toldRigging, .ref q_t_toldRoom, .int t_ringN, .ref q_t_ring, .ref q_t_was, .ref q_t_saved, .ref q_t_isThere, .ref q_t_forms, .ref q_t_sizes, .ref q_t_items, .ref q_t_moved, .int t_finding])), (q_t_boxes, .inl (cZ, 240, .inl o_t_boxes)), (q_t_next, .inl (cZ, 240, .inl o_t_next))] (va_A [(q_t, .inr (7, [.ref q_t_boxes, .ref q_t_next, .int t_done, .ref q_t_left, .ref q_t_pairs, .int t_many, .ref q_t_lengths, .ref q_t_riggings, .int t_told, .ref q_t_toldLength, .ref q_t_toldRigging, .ref q_t_toldRoom, .int t_ringN, .ref q_t_ring, .ref q_t_was, .ref q_t_saved, .ref q_t_isThere, .ref q_t_forms, .ref q_t_sizes, .ref q_t_items, .ref q_t_moved, .int t_finding])), (q_t_boxes, .inl (cZ, 240, .inl t_boxes)), (q_t_next, .inl (cZ, 240, .inl t_next))] sz) r) 0 0 (va_A [(q_t, .inr (7, [.ref q_t_boxes, .ref q_t_next, .int t_done, .ref q_t_left, .ref q_t_pairs, .int t_many, .ref q_t_lengths, .ref q_t_riggings, .int t_told, .ref q_t_toldLength, .ref q_t_toldRigging, .ref q_t_toldRoom, .int t_ringN, .ref q_t_ring, .ref q_t_was, .ref q_t_saved, .ref q_t_isThere, .ref q_t_forms, .ref q_t_sizes, .ref q_t_items, .ref q_t_moved, .int t_finding])), (q_t_boxes, .inl (cZ, 240, .inl t_boxes)), (q_t_next, .inl (cZ, 240, .inl t_next))] sz) := by
  refine ctr (cc := cX7_step) (maxL := 2) (ret := (some .int)) (by decide) rfl (Nat.le_of_ble_eq_true rfl) ?_
  intro p e s m below meth c S hr hlk hnm hK hN hsz hA hw ls hl
  generalize va_A [(q_t, .inr (7, [.ref q_t_boxes, .ref q_t_next, .int t_done, .ref q_t_left, .ref q_t_pairs, .int t_many, .ref q_t_lengths, .ref q_t_riggings, .int t_told, .ref q_t_toldLength, .ref q_t_toldRigging, .ref q_t_toldRoom, .int t_ringN, .ref q_t_ring, .ref q_t_was, .ref q_t_saved, .ref q_t_isThere, .ref q_t_forms, .ref q_t_sizes, .ref q_t_items, .ref q_t_moved, .int t_finding])), (q_t_boxes, .inl (cZ, 240, .inl t_boxes)), (q_t_next, .inl (cZ, 240, .inl t_next))] sz = A at hA hw ⊢
  have S : CallFix p m c cX7_step 2 s ([.ref q_t, .int p1] : List Value).toArray wsX7_step RX7 := S
  have hx := S.1
  have hb := S.2.1
  have hts := S.2.2.2.2
  have hl : lv_has ls 2 [(0, .ref q_t), (1, .int p1)] := hl
  unfold f_X7_step at hf
  refine lv_aload_n hx hb dX7_step_0 rfl (lv_at hl 0 rfl) ?_
  refine lv_iload_n hx hb dX7_step_1 rfl (lv_at hl 1 rfl) ?_
  refine lv_iconst (v := (0 : Int32)) hx hb dX7_step_2 (by decide) ?_
  obtain ⟨r1, u2, u3, u4, h5, hf⟩ := bd4_some hf
  refine cl_i (wr := []) (ws' := [(q_t, .inr (7, [.ref q_t_boxes, .ref q_t_next, .int u2, .ref q_t_left, .ref q_t_pairs, .int t_many, .ref q_t_lengths, .ref q_t_riggings, .int t_told, .ref q_t_toldLength, .ref q_t_toldRigging, .ref q_t_toldRoom, .int t_ringN, .ref q_t_ring, .ref q_t_was, .ref q_t_saved, .ref q_t_isThere, .ref q_t_forms, .ref q_t_sizes, .ref q_t_items, .ref q_t_moved, .int t_finding])), (q_t_boxes, .inl (cZ, 240, .inl u3)), (q_t_next, .inl (cZ, 240, .inl u4))]) hA hw [0, 1, 2] [] [0, 1, 2] rfl rfl rfl (by decide) rfl rfl (va_runV (As := [.int p1, .int (0 : Int32)]) (rest := []) S (c_X7_goes l D cI cZ cJ cO _ q_t q_t_boxes q_t_next q_t_left q_t_pairs q_t_lengths q_t_riggings q_t_toldLength q_t_toldRigging q_t_toldRoom q_t_ring q_t_was q_t_saved q_t_isThere q_t_forms q_t_sizes q_t_items q_t_moved N p1 (0 : Int32) t_done t_many t_told t_ringN t_finding t_boxes t_next r1 u2 u3 u4 h5) (cwV 2 hts gX7_step_X7_goes rfl rfl rfl (by decide +kernel) ⟨Nat.le_of_ble_eq_true rfl, Nat.le_of_ble_eq_true rfl⟩) (pre_V hK hN hw [0, 1, 2] rfl rfl (C := RX7) (T := TX7) (N := 22) (ci := 7) (q0 := 0) rfl rfl) rfl rfl hl.1 rfl (lv_room (Nat.le_of_ble_eq_true rfl)) dX7_step_3 ⟨Nat.zero_le _, Nat.zero_le _⟩) (fun H locs hw => ?_)
  obtain ⟨rfl, rfl, rfl, rfl⟩ := pr4 (Option.some.inj hf)
  exact rt_i S hr hlk hw dX7_step_6

def f_X7_back (N : Nat) (p1 : Int32) (t_done : Int32) (t_boxes : (Nat → Int32)) (t_next : (Nat → Int32)) : Option (Int32 × Int32 × (Nat → Int32) × (Nat → Int32)) :=
  (bd4 (f_X7_goes N p1 (1 : Int32) t_done t_boxes t_next) (fun r1 u2 u3 u4 => (some (r1, u2, u3, u4))))

set_option maxHeartbeats 4000000 in
set_option maxRecDepth 100000 in
theorem c_X7_back (l : Launch) (D : va_G) (cI cZ cJ cO : ClassId) (sz : Nat) (q_t q_t_boxes q_t_next q_t_left q_t_pairs q_t_lengths q_t_riggings q_t_toldLength q_t_toldRigging q_t_toldRoom q_t_ring q_t_was q_t_saved q_t_isThere q_t_forms q_t_sizes q_t_items q_t_moved : Nat) (N : Nat) (p1 : Int32) (t_done : Int32) (t_many : Int32) (t_told : Int32) (t_ringN : Int32) (t_finding : Int32) (t_boxes : (Nat → Int32)) (t_next : (Nat → Int32)) (r : Int32) (o_t_done : Int32) (o_t_boxes : (Nat → Int32)) (o_t_next : (Nat → Int32)) (hf : f_X7_back N p1 t_done t_boxes t_next = some (r, o_t_done, o_t_boxes, o_t_next)) : Met l yX7_back wsX7_back ({ frames := 2, cells := 0, slots := 0, locals := 47 }) (PreC D (TY cI cZ cJ cO) [.ref q_t, .int p1] [(q_t, .inr (7, [.ref q_t_boxes, .ref q_t_next, .int t_done, .ref q_t_left, .ref q_t_pairs, .int t_many, .ref q_t_lengths, .ref q_t_riggings, .int t_told, .ref q_t_toldLength, .ref q_t_toldRigging, .ref q_t_toldRoom, .int t_ringN, .ref q_t_ring, .ref q_t_was, .ref q_t_saved, .ref q_t_isThere, .ref q_t_forms, .ref q_t_sizes, .ref q_t_items, .ref q_t_moved, .int t_finding])), (q_t_boxes, .inl (cZ, 240, .inl t_boxes)), (q_t_next, .inl (cZ, 240, .inl t_next))] sz) (QcI D [(q_t, .inr (7, [.ref q_t_boxes, .ref q_t_next, .int o_t_done, .ref q_t_left, .ref q_t_pairs, .int t_many, .ref q_t_lengths, .ref q_t_riggings, .int t_told, .ref q_t_toldLength, .ref q_t_toldRigging, .ref q_t_toldRoom, .int t_ringN, .ref q_t_ring, .ref q_t_was, .ref q_t_saved, .ref q_t_isThere, .ref q_t_forms, .ref q_t_sizes, .ref q_t_items, .ref q_t_moved, .int t_finding])), (q_t_boxes, .inl (cZ, 240, .inl o_t_boxes)), (q_t_next, .inl (cZ, 240, .inl o_t_next))] (va_A [(q_t, .inr (7, [.ref q_t_boxes, .ref q_t_next, .int t_done, .ref q_t_left, .ref q_t_pairs, .int t_many, .ref q_t_lengths, .ref q_t_riggings, .int t_told, .ref q_t_toldLength, .ref q_t_toldRigging, .ref q_t_toldRoom, .int t_ringN, .ref q_t_ring, .ref q_t_was, .ref q_t_saved, .ref q_t_isThere, .ref q_t_forms, .ref q_t_sizes, .ref q_t_items, .ref q_t_moved, .int t_finding])), (q_t_boxes, .inl (cZ, 240, .inl t_boxes)), (q_t_next, .inl (cZ, 240, .inl t_next))] sz) r) 0 0 (va_A [(q_t, .inr (7, [.ref q_t_boxes, .ref q_t_next, .int t_done, .ref q_t_left, .ref q_t_pairs, .int t_many, .ref q_t_lengths, .ref q_t_riggings, .int t_told, .ref q_t_toldLength, .ref q_t_toldRigging, .ref q_t_toldRoom, .int t_ringN, .ref q_t_ring, .ref q_t_was, .ref q_t_saved, .ref q_t_isThere, .ref q_t_forms, .ref q_t_sizes, .ref q_t_items, .ref q_t_moved, .int t_finding])), (q_t_boxes, .inl (cZ, 240, .inl t_boxes)), (q_t_next, .inl (cZ, 240, .inl t_next))] sz) := by
  refine ctr (cc := cX7_back) (maxL := 2) (ret := (some .int)) (by decide) rfl (Nat.le_of_ble_eq_true rfl) ?_
  intro p e s m below meth c S hr hlk hnm hK hN hsz hA hw ls hl
  generalize va_A [(q_t, .inr (7, [.ref q_t_boxes, .ref q_t_next, .int t_done, .ref q_t_left, .ref q_t_pairs, .int t_many, .ref q_t_lengths, .ref q_t_riggings, .int t_told, .ref q_t_toldLength, .ref q_t_toldRigging, .ref q_t_toldRoom, .int t_ringN, .ref q_t_ring, .ref q_t_was, .ref q_t_saved, .ref q_t_isThere, .ref q_t_forms, .ref q_t_sizes, .ref q_t_items, .ref q_t_moved, .int t_finding])), (q_t_boxes, .inl (cZ, 240, .inl t_boxes)), (q_t_next, .inl (cZ, 240, .inl t_next))] sz = A at hA hw ⊢
  have S : CallFix p m c cX7_back 2 s ([.ref q_t, .int p1] : List Value).toArray wsX7_back RX7 := S
  have hx := S.1
  have hb := S.2.1
  have hts := S.2.2.2.2
  have hl : lv_has ls 2 [(0, .ref q_t), (1, .int p1)] := hl
  unfold f_X7_back at hf
  refine lv_aload_n hx hb dX7_back_0 rfl (lv_at hl 0 rfl) ?_
  refine lv_iload_n hx hb dX7_back_1 rfl (lv_at hl 1 rfl) ?_
  refine lv_iconst (v := (1 : Int32)) hx hb dX7_back_2 (by decide) ?_
  obtain ⟨r1, u2, u3, u4, h5, hf⟩ := bd4_some hf
  refine cl_i (wr := []) (ws' := [(q_t, .inr (7, [.ref q_t_boxes, .ref q_t_next, .int u2, .ref q_t_left, .ref q_t_pairs, .int t_many, .ref q_t_lengths, .ref q_t_riggings, .int t_told, .ref q_t_toldLength, .ref q_t_toldRigging, .ref q_t_toldRoom, .int t_ringN, .ref q_t_ring, .ref q_t_was, .ref q_t_saved, .ref q_t_isThere, .ref q_t_forms, .ref q_t_sizes, .ref q_t_items, .ref q_t_moved, .int t_finding])), (q_t_boxes, .inl (cZ, 240, .inl u3)), (q_t_next, .inl (cZ, 240, .inl u4))]) hA hw [0, 1, 2] [] [0, 1, 2] rfl rfl rfl (by decide) rfl rfl (va_runV (As := [.int p1, .int (1 : Int32)]) (rest := []) S (c_X7_goes l D cI cZ cJ cO _ q_t q_t_boxes q_t_next q_t_left q_t_pairs q_t_lengths q_t_riggings q_t_toldLength q_t_toldRigging q_t_toldRoom q_t_ring q_t_was q_t_saved q_t_isThere q_t_forms q_t_sizes q_t_items q_t_moved N p1 (1 : Int32) t_done t_many t_told t_ringN t_finding t_boxes t_next r1 u2 u3 u4 h5) (cwV 2 hts gX7_back_X7_goes rfl rfl rfl (by decide +kernel) ⟨Nat.le_of_ble_eq_true rfl, Nat.le_of_ble_eq_true rfl⟩) (pre_V hK hN hw [0, 1, 2] rfl rfl (C := RX7) (T := TX7) (N := 22) (ci := 7) (q0 := 0) rfl rfl) rfl rfl hl.1 rfl (lv_room (Nat.le_of_ble_eq_true rfl)) dX7_back_3 ⟨Nat.zero_le _, Nat.zero_le _⟩) (fun H locs hw => ?_)
  obtain ⟨rfl, rfl, rfl, rfl⟩ := pr4 (Option.some.inj hf)
  exact rt_i S hr hlk hw dX7_back_6

def L_X7_kept_20 (N : Nat) (x1 : Int32) (t_boxes : (Nat → Int32)) (K : Int32 → Option (Int32)) : Nat → Int32 → Int32 → Int32 → Option (Int32)
  | 0, _, _, _ => none
  | n + 1, x2, x3, x4 => (if (240 : Int32) ≤ x4 then (K x3) else (ck (inb x4 240) (if (t_boxes x4.toNatClampNeg) = (0 : Int32) then (ck (inb x4 240) (if (t_boxes x4.toNatClampNeg) = (0 : Int32) then (if x2 ≤ (0 : Int32) then (L_X7_kept_20 N x1 t_boxes K n x2 x3 (x4 + (1 : Int32))) else (L_X7_kept_20 N x1 t_boxes K n (x2 + (-1 : Int32)) x3 (x4 + (1 : Int32)))) else (L_X7_kept_20 N x1 t_boxes K n x2 x3 (x4 + (1 : Int32))))) else (if x1 ≤ x2 then (ck (inb x4 240) (if (t_boxes x4.toNatClampNeg) = (0 : Int32) then (if x2 ≤ (0 : Int32) then (L_X7_kept_20 N x1 t_boxes K n x2 x3 (x4 + (1 : Int32))) else (L_X7_kept_20 N x1 t_boxes K n (x2 + (-1 : Int32)) x3 (x4 + (1 : Int32)))) else (L_X7_kept_20 N x1 t_boxes K n x2 x3 (x4 + (1 : Int32))))) else (L_X7_kept_20 N x1 t_boxes K n (x2 + (1 : Int32)) (x3 + (1 : Int32)) (x4 + (1 : Int32)))))))

def f_X7_kept (N : Nat) (p1 : Int32) (t_boxes : (Nat → Int32)) : Option (Int32) :=
  (bd1 (f_X7_in N p1 (1 : Int32) (50 : Int32)) (fun r1 => (if r1 = (0 : Int32) then (some (-2 : Int32)) else (L_X7_kept_20 N p1 t_boxes (fun y14 => (some y14)) N (0 : Int32) (0 : Int32) (0 : Int32)))))

set_option maxHeartbeats 4000000 in
set_option maxRecDepth 100000 in
theorem c_X7_kept (l : Launch) (D : va_G) (cI cZ cJ cO : ClassId) (sz : Nat) (q_t q_t_boxes q_t_next q_t_left q_t_pairs q_t_lengths q_t_riggings q_t_toldLength q_t_toldRigging q_t_toldRoom q_t_ring q_t_was q_t_saved q_t_isThere q_t_forms q_t_sizes q_t_items q_t_moved : Nat) (N : Nat) (p1 : Int32) (t_done : Int32) (t_many : Int32) (t_told : Int32) (t_ringN : Int32) (t_finding : Int32) (t_boxes : (Nat → Int32)) (r : Int32) (hf : f_X7_kept N p1 t_boxes = some r) : Met l yX7_kept wsX7_kept ({ frames := 1, cells := 0, slots := 0, locals := 22 }) (PreC D (TY cI cZ cJ cO) [.ref q_t, .int p1] [(q_t, .inr (7, [.ref q_t_boxes, .ref q_t_next, .int t_done, .ref q_t_left, .ref q_t_pairs, .int t_many, .ref q_t_lengths, .ref q_t_riggings, .int t_told, .ref q_t_toldLength, .ref q_t_toldRigging, .ref q_t_toldRoom, .int t_ringN, .ref q_t_ring, .ref q_t_was, .ref q_t_saved, .ref q_t_isThere, .ref q_t_forms, .ref q_t_sizes, .ref q_t_items, .ref q_t_moved, .int t_finding])), (q_t_boxes, .inl (cZ, 240, .inl t_boxes))] sz) (QcI D [(q_t, .inr (7, [.ref q_t_boxes, .ref q_t_next, .int t_done, .ref q_t_left, .ref q_t_pairs, .int t_many, .ref q_t_lengths, .ref q_t_riggings, .int t_told, .ref q_t_toldLength, .ref q_t_toldRigging, .ref q_t_toldRoom, .int t_ringN, .ref q_t_ring, .ref q_t_was, .ref q_t_saved, .ref q_t_isThere, .ref q_t_forms, .ref q_t_sizes, .ref q_t_items, .ref q_t_moved, .int t_finding])), (q_t_boxes, .inl (cZ, 240, .inl t_boxes))] (va_A [(q_t, .inr (7, [.ref q_t_boxes, .ref q_t_next, .int t_done, .ref q_t_left, .ref q_t_pairs, .int t_many, .ref q_t_lengths, .ref q_t_riggings, .int t_told, .ref q_t_toldLength, .ref q_t_toldRigging, .ref q_t_toldRoom, .int t_ringN, .ref q_t_ring, .ref q_t_was, .ref q_t_saved, .ref q_t_isThere, .ref q_t_forms, .ref q_t_sizes, .ref q_t_items, .ref q_t_moved, .int t_finding])), (q_t_boxes, .inl (cZ, 240, .inl t_boxes))] sz) r) 0 0 (va_A [(q_t, .inr (7, [.ref q_t_boxes, .ref q_t_next, .int t_done, .ref q_t_left, .ref q_t_pairs, .int t_many, .ref q_t_lengths, .ref q_t_riggings, .int t_told, .ref q_t_toldLength, .ref q_t_toldRigging, .ref q_t_toldRoom, .int t_ringN, .ref q_t_ring, .ref q_t_was, .ref q_t_saved, .ref q_t_isThere, .ref q_t_forms, .ref q_t_sizes, .ref q_t_items, .ref q_t_moved, .int t_finding])), (q_t_boxes, .inl (cZ, 240, .inl t_boxes))] sz) := by
  refine ctr (cc := cX7_kept) (maxL := 5) (ret := (some .int)) (by decide) rfl (Nat.le_of_ble_eq_true rfl) ?_
  intro p e s m below meth c S hr hlk hnm hK hN hsz hA hw ls hl
  generalize va_A [(q_t, .inr (7, [.ref q_t_boxes, .ref q_t_next, .int t_done, .ref q_t_left, .ref q_t_pairs, .int t_many, .ref q_t_lengths, .ref q_t_riggings, .int t_told, .ref q_t_toldLength, .ref q_t_toldRigging, .ref q_t_toldRoom, .int t_ringN, .ref q_t_ring, .ref q_t_was, .ref q_t_saved, .ref q_t_isThere, .ref q_t_forms, .ref q_t_sizes, .ref q_t_items, .ref q_t_moved, .int t_finding])), (q_t_boxes, .inl (cZ, 240, .inl t_boxes))] sz = A at hA hw ⊢
  have S : CallFix p m c cX7_kept 5 s ([.ref q_t, .int p1] : List Value).toArray wsX7_kept RX7 := S
  have hx := S.1
  have hb := S.2.1
  have hts := S.2.2.2.2
  have hl : lv_has ls 5 [(0, .ref q_t), (1, .int p1)] := hl
  have hinX7 : ∀ w ∈ u_ws RX7 TX7 22, w ∈ wsX7_kept := by decide +kernel
  have k7 : Cond.fieldLink RX7 7 "BallBoxesModel" "boxes" "[Z" ∈ wsX7_kept := by decide +kernel
  have Lp20 : ∀ (x1 : Int32) (K : Int32 → Option (Int32)), (∀ (z3 : Int32) (H : Heap) (locs : List Loc) (ls : Array Slot), Wd D A s.heap [(q_t, .inr (7, [.ref q_t_boxes, .ref q_t_next, .int t_done, .ref q_t_left, .ref q_t_pairs, .int t_many, .ref q_t_lengths, .ref q_t_riggings, .int t_told, .ref q_t_toldLength, .ref q_t_toldRigging, .ref q_t_toldRoom, .int t_ringN, .ref q_t_ring, .ref q_t_was, .ref q_t_saved, .ref q_t_isThere, .ref q_t_forms, .ref q_t_sizes, .ref q_t_items, .ref q_t_moved, .int t_finding])), (q_t_boxes, .inl (cZ, 240, .inl t_boxes))] H locs → lv_has ls 5 [(3, .int z3)] → K z3 = some r → W p l e ({ frames := 1, cells := 0, slots := 0, locals := 22 } : Room) s m ([.ref q_t, .int p1] : List Value).toArray below meth c H locs 0 0 (MQ below (QcI D [(q_t, .inr (7, [.ref q_t_boxes, .ref q_t_next, .int t_done, .ref q_t_left, .ref q_t_pairs, .int t_many, .ref q_t_lengths, .ref q_t_riggings, .int t_told, .ref q_t_toldLength, .ref q_t_toldRigging, .ref q_t_toldRoom, .int t_ringN, .ref q_t_ring, .ref q_t_was, .ref q_t_saved, .ref q_t_isThere, .ref q_t_forms, .ref q_t_sizes, .ref q_t_items, .ref q_t_moved, .int t_finding])), (q_t_boxes, .inl (cZ, 240, .inl t_boxes))] A r) ([.ref q_t, .int p1] : List Value).toArray s 0 0 A) (F0 m 75 ls [])) → ∀ (n : Nat) (x2 : Int32) (x3 : Int32) (x4 : Int32) (H : Heap) (locs : List Loc) (ls : Array Slot), Wd D A s.heap [(q_t, .inr (7, [.ref q_t_boxes, .ref q_t_next, .int t_done, .ref q_t_left, .ref q_t_pairs, .int t_many, .ref q_t_lengths, .ref q_t_riggings, .int t_told, .ref q_t_toldLength, .ref q_t_toldRigging, .ref q_t_toldRoom, .int t_ringN, .ref q_t_ring, .ref q_t_was, .ref q_t_saved, .ref q_t_isThere, .ref q_t_forms, .ref q_t_sizes, .ref q_t_items, .ref q_t_moved, .int t_finding])), (q_t_boxes, .inl (cZ, 240, .inl t_boxes))] H locs → lv_has ls 5 [(0, .ref q_t), (1, .int x1), (2, .int x2), (3, .int x3), (4, .int x4)] → L_X7_kept_20 N x1 t_boxes K n x2 x3 x4 = some r → W p l e ({ frames := 1, cells := 0, slots := 0, locals := 22 } : Room) s m ([.ref q_t, .int p1] : List Value).toArray below meth c H locs 0 0 (MQ below (QcI D [(q_t, .inr (7, [.ref q_t_boxes, .ref q_t_next, .int t_done, .ref q_t_left, .ref q_t_pairs, .int t_many, .ref q_t_lengths, .ref q_t_riggings, .int t_told, .ref q_t_toldLength, .ref q_t_toldRigging, .ref q_t_toldRoom, .int t_ringN, .ref q_t_ring, .ref q_t_was, .ref q_t_saved, .ref q_t_isThere, .ref q_t_forms, .ref q_t_sizes, .ref q_t_items, .ref q_t_moved, .int t_finding])), (q_t_boxes, .inl (cZ, 240, .inl t_boxes))] A r) ([.ref q_t, .int p1] : List Value).toArray s 0 0 A) (F0 m 20 ls []) := by
    intro x1 K hKx n
    induction n with
    | zero =>
      intro x2 x3 x4 H locs ls hw hl hf
      rw [L_X7_kept_20] at hf
      cases hf
    | succ n ih =>
      intro x2 x3 x4 H locs ls hw hl hf
      rw [L_X7_kept_20] at hf
      refine lv_iload hx hb dX7_kept_20 (lv_at hl 4 rfl) ?_
      refine lv_sipush (v := (240 : Int32)) hx hb dX7_kept_22 (by decide) ?_
      refine lv_icmp_ge (tgt := 75) hx hb dX7_kept_25 (by decide) (fun c4 => ?_) (fun c4 => ?_)
      · have hf := (if_pos c4).symm.trans hf
        exact hKx x3 _ _ _ hw (lv_sub hl [3] rfl) hf
      · have hf := (if_neg c4).symm.trans hf
        refine lv_aload_n hx hb dX7_kept_28 rfl (lv_at hl 0 rfl) ?_
        refine g_get (ci := 7) (C := RX7) (T := TX7) (N := 22) S hinX7 hK hw 0 0 k7 dX7_kept_29 rfl rfl (by decide) rfl ?_
        refine lv_iload hx hb dX7_kept_32 (lv_at hl 4 rfl) ?_
        obtain ⟨b5, hf⟩ := ck_some hf
        refine g_zald S hK hw 1 1 b5 dX7_kept_34 rfl rfl ?_
        refine lv_if_eq (tgt := 52) hx hb dX7_kept_35 (by decide) (fun c6 => ?_) (fun c6 => ?_)
        · have hf := (if_pos c6).symm.trans hf
          refine lv_aload_n hx hb dX7_kept_52 rfl (lv_at hl 0 rfl) ?_
          refine g_get (ci := 7) (C := RX7) (T := TX7) (N := 22) S hinX7 hK hw 0 0 k7 dX7_kept_53 rfl rfl (by decide) rfl ?_
          refine lv_iload hx hb dX7_kept_56 (lv_at hl 4 rfl) ?_
          obtain ⟨b7, hf⟩ := ck_some hf
          refine g_zald S hK hw 1 1 b7 dX7_kept_58 rfl rfl ?_
          refine lv_if_ne (tgt := 69) hx hb dX7_kept_59 (by decide) (fun c8 => ?_) (fun c8 => ?_)
          · have hf := (if_neg c8).symm.trans hf
            refine lv_iinc (v := (x4 + (1 : Int32))) (lv' := [(4, .int (x4 + (1 : Int32))), (0, .ref q_t), (1, .int x1), (2, .int x2), (3, .int x3)]) hx hb dX7_kept_69 hl (k := 4) rfl rfl (by decide) rfl (fun ls hl => ?_)
            refine lv_goto (tgt := 20) hx hb dX7_kept_72 (by decide) ?_
            exact ih x2 x3 (x4 + (1 : Int32)) _ _ _ hw (lv_sub hl [1, 2, 3, 4, 0] rfl) hf
          · have hf := (if_pos c8).symm.trans hf
            refine lv_iload_n hx hb dX7_kept_62 rfl (lv_at hl 2 rfl) ?_
            refine lv_if_le (tgt := 69) hx hb dX7_kept_63 (by decide) (fun c9 => ?_) (fun c9 => ?_)
            · have hf := (if_pos c9).symm.trans hf
              refine lv_iinc (v := (x4 + (1 : Int32))) (lv' := [(4, .int (x4 + (1 : Int32))), (0, .ref q_t), (1, .int x1), (2, .int x2), (3, .int x3)]) hx hb dX7_kept_69 hl (k := 4) rfl rfl (by decide) rfl (fun ls hl => ?_)
              refine lv_goto (tgt := 20) hx hb dX7_kept_72 (by decide) ?_
              exact ih x2 x3 (x4 + (1 : Int32)) _ _ _ hw (lv_sub hl [1, 2, 3, 4, 0] rfl) hf
            · have hf := (if_neg c9).symm.trans hf
              refine lv_iinc (v := (x2 + (-1 : Int32))) (lv' := [(2, .int (x2 + (-1 : Int32))), (0, .ref q_t), (1, .int x1), (3, .int x3), (4, .int x4)]) hx hb dX7_kept_66 hl (k := 2) rfl rfl (by decide) rfl (fun ls hl => ?_)
              refine lv_iinc (v := (x4 + (1 : Int32))) (lv' := [(4, .int (x4 + (1 : Int32))), (2, .int (x2 + (-1 : Int32))), (0, .ref q_t), (1, .int x1), (3, .int x3)]) hx hb dX7_kept_69 hl (k := 4) rfl rfl (by decide) rfl (fun ls hl => ?_)
              refine lv_goto (tgt := 20) hx hb dX7_kept_72 (by decide) ?_
              exact ih (x2 + (-1 : Int32)) x3 (x4 + (1 : Int32)) _ _ _ hw (lv_sub hl [2, 3, 1, 4, 0] rfl) hf
        · have hf := (if_neg c6).symm.trans hf
          refine lv_iload_n hx hb dX7_kept_38 rfl (lv_at hl 2 rfl) ?_
          refine lv_iload_n hx hb dX7_kept_39 rfl (lv_at hl 1 rfl) ?_
          refine lv_icmp_ge (tgt := 52) hx hb dX7_kept_40 (by decide) (fun c10 => ?_) (fun c10 => ?_)
          · have hf := (if_pos c10).symm.trans hf
            refine lv_aload_n hx hb dX7_kept_52 rfl (lv_at hl 0 rfl) ?_
            refine g_get (ci := 7) (C := RX7) (T := TX7) (N := 22) S hinX7 hK hw 0 0 k7 dX7_kept_53 rfl rfl (by decide) rfl ?_
            refine lv_iload hx hb dX7_kept_56 (lv_at hl 4 rfl) ?_
            obtain ⟨b11, hf⟩ := ck_some hf
            refine g_zald S hK hw 1 1 b11 dX7_kept_58 rfl rfl ?_
            refine lv_if_ne (tgt := 69) hx hb dX7_kept_59 (by decide) (fun c12 => ?_) (fun c12 => ?_)
            · have hf := (if_neg c12).symm.trans hf
              refine lv_iinc (v := (x4 + (1 : Int32))) (lv' := [(4, .int (x4 + (1 : Int32))), (0, .ref q_t), (1, .int x1), (2, .int x2), (3, .int x3)]) hx hb dX7_kept_69 hl (k := 4) rfl rfl (by decide) rfl (fun ls hl => ?_)
              refine lv_goto (tgt := 20) hx hb dX7_kept_72 (by decide) ?_
              exact ih x2 x3 (x4 + (1 : Int32)) _ _ _ hw (lv_sub hl [1, 2, 3, 4, 0] rfl) hf
            · have hf := (if_pos c12).symm.trans hf
              refine lv_iload_n hx hb dX7_kept_62 rfl (lv_at hl 2 rfl) ?_
              refine lv_if_le (tgt := 69) hx hb dX7_kept_63 (by decide) (fun c13 => ?_) (fun c13 => ?_)
              · have hf := (if_pos c13).symm.trans hf
                refine lv_iinc (v := (x4 + (1 : Int32))) (lv' := [(4, .int (x4 + (1 : Int32))), (0, .ref q_t), (1, .int x1), (2, .int x2), (3, .int x3)]) hx hb dX7_kept_69 hl (k := 4) rfl rfl (by decide) rfl (fun ls hl => ?_)
                refine lv_goto (tgt := 20) hx hb dX7_kept_72 (by decide) ?_
                exact ih x2 x3 (x4 + (1 : Int32)) _ _ _ hw (lv_sub hl [1, 2, 3, 4, 0] rfl) hf
              · have hf := (if_neg c13).symm.trans hf
                refine lv_iinc (v := (x2 + (-1 : Int32))) (lv' := [(2, .int (x2 + (-1 : Int32))), (0, .ref q_t), (1, .int x1), (3, .int x3), (4, .int x4)]) hx hb dX7_kept_66 hl (k := 2) rfl rfl (by decide) rfl (fun ls hl => ?_)
                refine lv_iinc (v := (x4 + (1 : Int32))) (lv' := [(4, .int (x4 + (1 : Int32))), (2, .int (x2 + (-1 : Int32))), (0, .ref q_t), (1, .int x1), (3, .int x3)]) hx hb dX7_kept_69 hl (k := 4) rfl rfl (by decide) rfl (fun ls hl => ?_)
                refine lv_goto (tgt := 20) hx hb dX7_kept_72 (by decide) ?_
                exact ih (x2 + (-1 : Int32)) x3 (x4 + (1 : Int32)) _ _ _ hw (lv_sub hl [2, 3, 1, 4, 0] rfl) hf
          · have hf := (if_neg c10).symm.trans hf
            refine lv_iinc (v := (x2 + (1 : Int32))) (lv' := [(2, .int (x2 + (1 : Int32))), (0, .ref q_t), (1, .int x1), (3, .int x3), (4, .int x4)]) hx hb dX7_kept_43 hl (k := 2) rfl rfl (by decide) rfl (fun ls hl => ?_)
            refine lv_iinc (v := (x3 + (1 : Int32))) (lv' := [(3, .int (x3 + (1 : Int32))), (2, .int (x2 + (1 : Int32))), (0, .ref q_t), (1, .int x1), (4, .int x4)]) hx hb dX7_kept_46 hl (k := 3) rfl rfl (by decide) rfl (fun ls hl => ?_)
            refine lv_goto (tgt := 69) hx hb dX7_kept_49 (by decide) ?_
            refine lv_iinc (v := (x4 + (1 : Int32))) (lv' := [(4, .int (x4 + (1 : Int32))), (3, .int (x3 + (1 : Int32))), (2, .int (x2 + (1 : Int32))), (0, .ref q_t), (1, .int x1)]) hx hb dX7_kept_69 hl (k := 4) rfl rfl (by decide) rfl (fun ls hl => ?_)
            refine lv_goto (tgt := 20) hx hb dX7_kept_72 (by decide) ?_
            exact ih (x2 + (1 : Int32)) (x3 + (1 : Int32)) (x4 + (1 : Int32)) _ _ _ hw (lv_sub hl [3, 4, 2, 1, 0] rfl) hf
  unfold f_X7_kept at hf
  refine lv_iload_n hx hb dX7_kept_0 rfl (lv_at hl 1 rfl) ?_
  refine lv_iconst (v := (1 : Int32)) hx hb dX7_kept_1 (by decide) ?_
  refine lv_bipush (v := (50 : Int32)) hx hb dX7_kept_2 (by decide) ?_
  obtain ⟨r1, h2, hf⟩ := bd1_some hf
  refine cl_i (wr := [(q_t, .inr (7, [.ref q_t_boxes, .ref q_t_next, .int t_done, .ref q_t_left, .ref q_t_pairs, .int t_many, .ref q_t_lengths, .ref q_t_riggings, .int t_told, .ref q_t_toldLength, .ref q_t_toldRigging, .ref q_t_toldRoom, .int t_ringN, .ref q_t_ring, .ref q_t_was, .ref q_t_saved, .ref q_t_isThere, .ref q_t_forms, .ref q_t_sizes, .ref q_t_items, .ref q_t_moved, .int t_finding])), (q_t_boxes, .inl (cZ, 240, .inl t_boxes))]) (ws' := [(q_t, .inr (7, [.ref q_t_boxes, .ref q_t_next, .int t_done, .ref q_t_left, .ref q_t_pairs, .int t_many, .ref q_t_lengths, .ref q_t_riggings, .int t_told, .ref q_t_toldLength, .ref q_t_toldRigging, .ref q_t_toldRoom, .int t_ringN, .ref q_t_ring, .ref q_t_was, .ref q_t_saved, .ref q_t_isThere, .ref q_t_forms, .ref q_t_sizes, .ref q_t_items, .ref q_t_moved, .int t_finding])), (q_t_boxes, .inl (cZ, 240, .inl t_boxes))]) hA hw [] [0, 1] [0, 1] rfl rfl rfl (by decide) rfl rfl (va_runS (As := [.int p1, .int (1 : Int32), .int (50 : Int32)]) (rest := []) S (c_X7_in l D cI cZ cJ cO _ N p1 (1 : Int32) (50 : Int32) r1 h2) (va_cwS 3 hts gX7_kept_X7_in rfl rfl rfl (by decide +kernel) ⟨Nat.le_of_ble_eq_true rfl, Nat.le_of_ble_eq_true rfl⟩) (pre_S hK hN hw [] rfl rfl) rfl rfl hl.1 rfl (lv_room (Nat.le_of_ble_eq_true rfl)) dX7_kept_4 ⟨Nat.zero_le _, Nat.zero_le _⟩) (fun H locs hw => ?_)
  refine lv_if_ne (tgt := 13) hx hb dX7_kept_7 (by decide) (fun c3 => ?_) (fun c3 => ?_)
  · have hf := (if_neg c3).symm.trans hf
    refine lv_iconst (v := (0 : Int32)) hx hb dX7_kept_13 (by decide) ?_
    refine lv_istore_n (lv' := [(2, .int (0 : Int32)), (0, .ref q_t), (1, .int p1)]) hx hb dX7_kept_14 rfl hl (by decide) rfl (fun ls hl => ?_)
    refine lv_iconst (v := (0 : Int32)) hx hb dX7_kept_15 (by decide) ?_
    refine lv_istore_n (lv' := [(3, .int (0 : Int32)), (2, .int (0 : Int32)), (0, .ref q_t), (1, .int p1)]) hx hb dX7_kept_16 rfl hl (by decide) rfl (fun ls hl => ?_)
    refine lv_iconst (v := (0 : Int32)) hx hb dX7_kept_17 (by decide) ?_
    refine lv_istore (lv' := [(4, .int (0 : Int32)), (3, .int (0 : Int32)), (2, .int (0 : Int32)), (0, .ref q_t), (1, .int p1)]) hx hb dX7_kept_18 hl (by decide) rfl (fun ls hl => ?_)
    refine Lp20 p1 _ (fun y14 H locs ls hw hl hf => ?_) N (0 : Int32) (0 : Int32) (0 : Int32) _ _ _ hw (lv_sub hl [3, 4, 2, 1, 0] rfl) hf
    refine lv_iload_n hx hb dX7_kept_75 rfl (lv_at hl 0 rfl) ?_
    obtain rfl := Option.some.inj hf
    exact rt_i S hr hlk hw dX7_kept_76
  · have hf := (if_pos c3).symm.trans hf
    refine lv_bipush (v := (-2 : Int32)) hx hb dX7_kept_10 (by decide) ?_
    obtain rfl := Option.some.inj hf
    exact rt_i S hr hlk hw dX7_kept_12

def L_X7_pairRounds_14 (N : Nat) (t_boxes : (Nat → Int32)) (K : (Nat → Int32) → Option (Int32 × (Nat → Int32) × (Nat → Int32))) : Nat → Int32 → (Nat → Int32) → Option (Int32 × (Nat → Int32) × (Nat → Int32))
  | 0, _, _ => none
  | n + 1, x4, w_t_left => (if (240 : Int32) ≤ x4 then (K w_t_left) else (ck (inb x4 240) (ck (inb x4 240) (L_X7_pairRounds_14 N t_boxes K n (x4 + (1 : Int32)) (upd w_t_left x4.toNatClampNeg (vp_nar .boolean (t_boxes x4.toNatClampNeg)))))))

def L_X7_pairRounds_59 (N : Nat) (x1 : Int32) (x3 : Int32) (K : Int32 → (Nat → Int32) → (Nat → Int32) → Option (Int32 × (Nat → Int32) × (Nat → Int32))) : Nat → Int32 → Int32 → (Nat → Int32) → (Nat → Int32) → Option (Int32 × (Nat → Int32) × (Nat → Int32))
  | 0, _, _, _, _ => none
  | n + 1, x4, x5, w_t_left, w_t_pairs => (if x1 ≤ x5 then (K x4 w_t_left w_t_pairs) else (ck (inb x5 240) (if (w_t_left x5.toNatClampNeg) = (0 : Int32) then (ck (inb x5 240) (ck (inb x4 240) (L_X7_pairRounds_59 N x1 x3 K n (x4 + (1 : Int32)) (x5 + (1 : Int32)) (upd w_t_left x4.toNatClampNeg (vp_nar .boolean (w_t_left x5.toNatClampNeg))) w_t_pairs))) else (if (x5 + (1 : Int32)) = x1 then (ck (inb x3 240) (ck (inb x3 240) (L_X7_pairRounds_59 N x1 x3 K n x4 (x5 + (2 : Int32)) w_t_left (upd w_t_pairs x3.toNatClampNeg ((w_t_pairs x3.toNatClampNeg) + (1 : Int32)))))) else (ck (inb (x5 + (1 : Int32)) 240) (if (w_t_left (x5 + (1 : Int32)).toNatClampNeg) = (0 : Int32) then (ck (inb x3 240) (ck (inb x3 240) (L_X7_pairRounds_59 N x1 x3 K n x4 (x5 + (2 : Int32)) w_t_left (upd w_t_pairs x3.toNatClampNeg ((w_t_pairs x3.toNatClampNeg) + (1 : Int32)))))) else (ck (inb x5 240) (ck (inb x4 240) (L_X7_pairRounds_59 N x1 x3 K n (x4 + (1 : Int32)) (x5 + (1 : Int32)) (upd w_t_left x4.toNatClampNeg (vp_nar .boolean (w_t_left x5.toNatClampNeg))) w_t_pairs)))))))))

def L_X7_pairRounds_42 (N : Nat) (K : Int32 → (Nat → Int32) → (Nat → Int32) → Option (Int32 × (Nat → Int32) × (Nat → Int32))) : Nat → Int32 → Int32 → Int32 → (Nat → Int32) → (Nat → Int32) → Option (Int32 × (Nat → Int32) × (Nat → Int32))
  | 0, _, _, _, _, _ => none
  | n + 1, x1, x2, x3, w_t_left, w_t_pairs => (if x2 ≤ (0 : Int32) then (K x3 w_t_left w_t_pairs) else (ck (inb x3 240) (L_X7_pairRounds_59 N x1 x3 (fun y23 u24 u25 => (ck (inb x3 240) (L_X7_pairRounds_42 N K n y23 (x2 - (u25 x3.toNatClampNeg)) (x3 + (1 : Int32)) u24 u25))) N (0 : Int32) (0 : Int32) w_t_left (upd w_t_pairs x3.toNatClampNeg (0 : Int32)))))

def f_X7_pairRounds (N : Nat)  (t_boxes : (Nat → Int32)) (t_left : (Nat → Int32)) (t_pairs : (Nat → Int32)) : Option (Int32 × (Nat → Int32) × (Nat → Int32)) :=
  (bd1 (f_X7_balls N t_boxes) (fun r1 => (L_X7_pairRounds_14 N t_boxes (fun u6 => (L_X7_pairRounds_42 N  (fun y27 u28 u29 => (some (y27, u28, u29))) N (240 : Int32) r1 (0 : Int32) u6 t_pairs)) N (0 : Int32) t_left)))

set_option maxHeartbeats 4000000 in
set_option maxRecDepth 100000 in
theorem c_X7_pairRounds (l : Launch) (D : va_G) (cI cZ cJ cO : ClassId) (sz : Nat) (q_t q_t_boxes q_t_next q_t_left q_t_pairs q_t_lengths q_t_riggings q_t_toldLength q_t_toldRigging q_t_toldRoom q_t_ring q_t_was q_t_saved q_t_isThere q_t_forms q_t_sizes q_t_items q_t_moved : Nat) (N : Nat)  (t_done : Int32) (t_many : Int32) (t_told : Int32) (t_ringN : Int32) (t_finding : Int32) (t_boxes : (Nat → Int32)) (t_left : (Nat → Int32)) (t_pairs : (Nat → Int32)) (r : Int32) (o_t_left : (Nat → Int32)) (o_t_pairs : (Nat → Int32)) (hf : f_X7_pairRounds N t_boxes t_left t_pairs = some (r, o_t_left, o_t_pairs)) : Met l yX7_pairRounds wsX7_pairRounds ({ frames := 1, cells := 0, slots := 0, locals := 22 }) (PreC D (TY cI cZ cJ cO) [.ref q_t] [(q_t, .inr (7, [.ref q_t_boxes, .ref q_t_next, .int t_done, .ref q_t_left, .ref q_t_pairs, .int t_many, .ref q_t_lengths, .ref q_t_riggings, .int t_told, .ref q_t_toldLength, .ref q_t_toldRigging, .ref q_t_toldRoom, .int t_ringN, .ref q_t_ring, .ref q_t_was, .ref q_t_saved, .ref q_t_isThere, .ref q_t_forms, .ref q_t_sizes, .ref q_t_items, .ref q_t_moved, .int t_finding])), (q_t_boxes, .inl (cZ, 240, .inl t_boxes)), (q_t_left, .inl (cZ, 240, .inl t_left)), (q_t_pairs, .inl (cI, 240, .inl t_pairs))] sz) (QcI D [(q_t, .inr (7, [.ref q_t_boxes, .ref q_t_next, .int t_done, .ref q_t_left, .ref q_t_pairs, .int t_many, .ref q_t_lengths, .ref q_t_riggings, .int t_told, .ref q_t_toldLength, .ref q_t_toldRigging, .ref q_t_toldRoom, .int t_ringN, .ref q_t_ring, .ref q_t_was, .ref q_t_saved, .ref q_t_isThere, .ref q_t_forms, .ref q_t_sizes, .ref q_t_items, .ref q_t_moved, .int t_finding])), (q_t_boxes, .inl (cZ, 240, .inl t_boxes)), (q_t_left, .inl (cZ, 240, .inl o_t_left)), (q_t_pairs, .inl (cI, 240, .inl o_t_pairs))] (va_A [(q_t, .inr (7, [.ref q_t_boxes, .ref q_t_next, .int t_done, .ref q_t_left, .ref q_t_pairs, .int t_many, .ref q_t_lengths, .ref q_t_riggings, .int t_told, .ref q_t_toldLength, .ref q_t_toldRigging, .ref q_t_toldRoom, .int t_ringN, .ref q_t_ring, .ref q_t_was, .ref q_t_saved, .ref q_t_isThere, .ref q_t_forms, .ref q_t_sizes, .ref q_t_items, .ref q_t_moved, .int t_finding])), (q_t_boxes, .inl (cZ, 240, .inl t_boxes)), (q_t_left, .inl (cZ, 240, .inl t_left)), (q_t_pairs, .inl (cI, 240, .inl t_pairs))] sz) r) 0 0 (va_A [(q_t, .inr (7, [.ref q_t_boxes, .ref q_t_next, .int t_done, .ref q_t_left, .ref q_t_pairs, .int t_many, .ref q_t_lengths, .ref q_t_riggings, .int t_told, .ref q_t_toldLength, .ref q_t_toldRigging, .ref q_t_toldRoom, .int t_ringN, .ref q_t_ring, .ref q_t_was, .ref q_t_saved, .ref q_t_isThere, .ref q_t_forms, .ref q_t_sizes, .ref q_t_items, .ref q_t_moved, .int t_finding])), (q_t_boxes, .inl (cZ, 240, .inl t_boxes)), (q_t_left, .inl (cZ, 240, .inl t_left)), (q_t_pairs, .inl (cI, 240, .inl t_pairs))] sz) := by
  refine ctr (cc := cX7_pairRounds) (maxL := 6) (ret := (some .int)) (by decide) rfl (Nat.le_of_ble_eq_true rfl) ?_
  intro p e s m below meth c S hr hlk hnm hK hN hsz hA hw ls hl
  generalize va_A [(q_t, .inr (7, [.ref q_t_boxes, .ref q_t_next, .int t_done, .ref q_t_left, .ref q_t_pairs, .int t_many, .ref q_t_lengths, .ref q_t_riggings, .int t_told, .ref q_t_toldLength, .ref q_t_toldRigging, .ref q_t_toldRoom, .int t_ringN, .ref q_t_ring, .ref q_t_was, .ref q_t_saved, .ref q_t_isThere, .ref q_t_forms, .ref q_t_sizes, .ref q_t_items, .ref q_t_moved, .int t_finding])), (q_t_boxes, .inl (cZ, 240, .inl t_boxes)), (q_t_left, .inl (cZ, 240, .inl t_left)), (q_t_pairs, .inl (cI, 240, .inl t_pairs))] sz = A at hA hw ⊢
  have S : CallFix p m c cX7_pairRounds 6 s ([.ref q_t] : List Value).toArray wsX7_pairRounds RX7 := S
  have hx := S.1
  have hb := S.2.1
  have hts := S.2.2.2.2
  have hl : lv_has ls 6 [(0, .ref q_t)] := hl
  have hinX7 : ∀ w ∈ u_ws RX7 TX7 22, w ∈ wsX7_pairRounds := by decide +kernel
  have k7 : Cond.fieldLink RX7 7 "BallBoxesModel" "boxes" "[Z" ∈ wsX7_pairRounds := by decide +kernel
  have k16 : Cond.fieldLink RX7 16 "BallBoxesModel" "left" "[Z" ∈ wsX7_pairRounds := by decide +kernel
  have k19 : Cond.fieldLink RX7 19 "BallBoxesModel" "pairs" "[I" ∈ wsX7_pairRounds := by decide +kernel
  have Lp14 : ∀ (x1 : Int32) (x2 : Int32) (x3 : Int32) (w_t_pairs : (Nat → Int32)) (K : (Nat → Int32) → Option (Int32 × (Nat → Int32) × (Nat → Int32))), (∀ (z_t_left : (Nat → Int32)) (H : Heap) (locs : List Loc) (ls : Array Slot), Wd D A s.heap [(q_t, .inr (7, [.ref q_t_boxes, .ref q_t_next, .int t_done, .ref q_t_left, .ref q_t_pairs, .int t_many, .ref q_t_lengths, .ref q_t_riggings, .int t_told, .ref q_t_toldLength, .ref q_t_toldRigging, .ref q_t_toldRoom, .int t_ringN, .ref q_t_ring, .ref q_t_was, .ref q_t_saved, .ref q_t_isThere, .ref q_t_forms, .ref q_t_sizes, .ref q_t_items, .ref q_t_moved, .int t_finding])), (q_t_boxes, .inl (cZ, 240, .inl t_boxes)), (q_t_left, .inl (cZ, 240, .inl z_t_left)), (q_t_pairs, .inl (cI, 240, .inl w_t_pairs))] H locs → lv_has ls 6 [(0, .ref q_t), (1, .int x1), (2, .int x2), (3, .int x3)] → K z_t_left = some (r, o_t_left, o_t_pairs) → W p l e ({ frames := 1, cells := 0, slots := 0, locals := 22 } : Room) s m ([.ref q_t] : List Value).toArray below meth c H locs 0 0 (MQ below (QcI D [(q_t, .inr (7, [.ref q_t_boxes, .ref q_t_next, .int t_done, .ref q_t_left, .ref q_t_pairs, .int t_many, .ref q_t_lengths, .ref q_t_riggings, .int t_told, .ref q_t_toldLength, .ref q_t_toldRigging, .ref q_t_toldRoom, .int t_ringN, .ref q_t_ring, .ref q_t_was, .ref q_t_saved, .ref q_t_isThere, .ref q_t_forms, .ref q_t_sizes, .ref q_t_items, .ref q_t_moved, .int t_finding])), (q_t_boxes, .inl (cZ, 240, .inl t_boxes)), (q_t_left, .inl (cZ, 240, .inl o_t_left)), (q_t_pairs, .inl (cI, 240, .inl o_t_pairs))] A r) ([.ref q_t] : List Value).toArray s 0 0 A) (F0 m 42 ls [])) → ∀ (n : Nat) (x4 : Int32) (w_t_left : (Nat → Int32)) (H : Heap) (locs : List Loc) (ls : Array Slot), Wd D A s.heap [(q_t, .inr (7, [.ref q_t_boxes, .ref q_t_next, .int t_done, .ref q_t_left, .ref q_t_pairs, .int t_many, .ref q_t_lengths, .ref q_t_riggings, .int t_told, .ref q_t_toldLength, .ref q_t_toldRigging, .ref q_t_toldRoom, .int t_ringN, .ref q_t_ring, .ref q_t_was, .ref q_t_saved, .ref q_t_isThere, .ref q_t_forms, .ref q_t_sizes, .ref q_t_items, .ref q_t_moved, .int t_finding])), (q_t_boxes, .inl (cZ, 240, .inl t_boxes)), (q_t_left, .inl (cZ, 240, .inl w_t_left)), (q_t_pairs, .inl (cI, 240, .inl w_t_pairs))] H locs → lv_has ls 6 [(0, .ref q_t), (1, .int x1), (2, .int x2), (3, .int x3), (4, .int x4)] → L_X7_pairRounds_14 N t_boxes K n x4 w_t_left = some (r, o_t_left, o_t_pairs) → W p l e ({ frames := 1, cells := 0, slots := 0, locals := 22 } : Room) s m ([.ref q_t] : List Value).toArray below meth c H locs 0 0 (MQ below (QcI D [(q_t, .inr (7, [.ref q_t_boxes, .ref q_t_next, .int t_done, .ref q_t_left, .ref q_t_pairs, .int t_many, .ref q_t_lengths, .ref q_t_riggings, .int t_told, .ref q_t_toldLength, .ref q_t_toldRigging, .ref q_t_toldRoom, .int t_ringN, .ref q_t_ring, .ref q_t_was, .ref q_t_saved, .ref q_t_isThere, .ref q_t_forms, .ref q_t_sizes, .ref q_t_items, .ref q_t_moved, .int t_finding])), (q_t_boxes, .inl (cZ, 240, .inl t_boxes)), (q_t_left, .inl (cZ, 240, .inl o_t_left)), (q_t_pairs, .inl (cI, 240, .inl o_t_pairs))] A r) ([.ref q_t] : List Value).toArray s 0 0 A) (F0 m 14 ls []) := by
    intro x1 x2 x3 w_t_pairs K hKx n
    induction n with
    | zero =>
      intro x4 w_t_left H locs ls hw hl hf
      rw [L_X7_pairRounds_14] at hf
      cases hf
    | succ n ih =>
      intro x4 w_t_left H locs ls hw hl hf
      rw [L_X7_pairRounds_14] at hf
      refine lv_iload hx hb dX7_pairRounds_14 (lv_at hl 4 rfl) ?_
      refine lv_sipush (v := (240 : Int32)) hx hb dX7_pairRounds_16 (by decide) ?_
      refine lv_icmp_ge (tgt := 42) hx hb dX7_pairRounds_19 (by decide) (fun c3 => ?_) (fun c3 => ?_)
      · have hf := (if_pos c3).symm.trans hf
        exact hKx w_t_left _ _ _ hw (lv_sub hl [0, 1, 2, 3] rfl) hf
      · have hf := (if_neg c3).symm.trans hf
        refine lv_aload_n hx hb dX7_pairRounds_22 rfl (lv_at hl 0 rfl) ?_
        refine g_get (ci := 7) (C := RX7) (T := TX7) (N := 22) S hinX7 hK hw 0 3 k16 dX7_pairRounds_23 rfl rfl (by decide) rfl ?_
        refine lv_iload hx hb dX7_pairRounds_26 (lv_at hl 4 rfl) ?_
        refine lv_aload_n hx hb dX7_pairRounds_28 rfl (lv_at hl 0 rfl) ?_
        refine g_get (ci := 7) (C := RX7) (T := TX7) (N := 22) S hinX7 hK hw 0 0 k7 dX7_pairRounds_29 rfl rfl (by decide) rfl ?_
        refine lv_iload hx hb dX7_pairRounds_32 (lv_at hl 4 rfl) ?_
        obtain ⟨b4, hf⟩ := ck_some hf
        refine g_zald S hK hw 1 1 b4 dX7_pairRounds_34 rfl rfl ?_
        obtain ⟨b5, hf⟩ := ck_some hf
        refine g_zast (ws' := [(q_t, .inr (7, [.ref q_t_boxes, .ref q_t_next, .int t_done, .ref q_t_left, .ref q_t_pairs, .int t_many, .ref q_t_lengths, .ref q_t_riggings, .int t_told, .ref q_t_toldLength, .ref q_t_toldRigging, .ref q_t_toldRoom, .int t_ringN, .ref q_t_ring, .ref q_t_was, .ref q_t_saved, .ref q_t_isThere, .ref q_t_forms, .ref q_t_sizes, .ref q_t_items, .ref q_t_moved, .int t_finding])), (q_t_boxes, .inl (cZ, 240, .inl t_boxes)), (q_t_left, .inl (cZ, 240, .inl (upd w_t_left x4.toNatClampNeg (vp_nar .boolean (t_boxes x4.toNatClampNeg))))), (q_t_pairs, .inl (cI, 240, .inl w_t_pairs))]) S hK hw 2 1 b5 dX7_pairRounds_35 rfl rfl rfl (fun H locs hw => ?_)
        refine lv_iinc (v := (x4 + (1 : Int32))) (lv' := [(4, .int (x4 + (1 : Int32))), (0, .ref q_t), (1, .int x1), (2, .int x2), (3, .int x3)]) hx hb dX7_pairRounds_36 hl (k := 4) rfl rfl (by decide) rfl (fun ls hl => ?_)
        refine lv_goto (tgt := 14) hx hb dX7_pairRounds_39 (by decide) ?_
        exact ih (x4 + (1 : Int32)) (upd w_t_left x4.toNatClampNeg (vp_nar .boolean (t_boxes x4.toNatClampNeg))) _ _ _ hw (lv_sub hl [1, 2, 3, 4, 0] rfl) hf
  have Lp59 : ∀ (x1 : Int32) (x2 : Int32) (x3 : Int32) (K : Int32 → (Nat → Int32) → (Nat → Int32) → Option (Int32 × (Nat → Int32) × (Nat → Int32))), (∀ (z4 : Int32) (z_t_left : (Nat → Int32)) (z_t_pairs : (Nat → Int32)) (H : Heap) (locs : List Loc) (ls : Array Slot), Wd D A s.heap [(q_t, .inr (7, [.ref q_t_boxes, .ref q_t_next, .int t_done, .ref q_t_left, .ref q_t_pairs, .int t_many, .ref q_t_lengths, .ref q_t_riggings, .int t_told, .ref q_t_toldLength, .ref q_t_toldRigging, .ref q_t_toldRoom, .int t_ringN, .ref q_t_ring, .ref q_t_was, .ref q_t_saved, .ref q_t_isThere, .ref q_t_forms, .ref q_t_sizes, .ref q_t_items, .ref q_t_moved, .int t_finding])), (q_t_boxes, .inl (cZ, 240, .inl t_boxes)), (q_t_left, .inl (cZ, 240, .inl z_t_left)), (q_t_pairs, .inl (cI, 240, .inl z_t_pairs))] H locs → lv_has ls 6 [(0, .ref q_t), (2, .int x2), (3, .int x3), (4, .int z4)] → K z4 z_t_left z_t_pairs = some (r, o_t_left, o_t_pairs) → W p l e ({ frames := 1, cells := 0, slots := 0, locals := 22 } : Room) s m ([.ref q_t] : List Value).toArray below meth c H locs 0 0 (MQ below (QcI D [(q_t, .inr (7, [.ref q_t_boxes, .ref q_t_next, .int t_done, .ref q_t_left, .ref q_t_pairs, .int t_many, .ref q_t_lengths, .ref q_t_riggings, .int t_told, .ref q_t_toldLength, .ref q_t_toldRigging, .ref q_t_toldRoom, .int t_ringN, .ref q_t_ring, .ref q_t_was, .ref q_t_saved, .ref q_t_isThere, .ref q_t_forms, .ref q_t_sizes, .ref q_t_items, .ref q_t_moved, .int t_finding])), (q_t_boxes, .inl (cZ, 240, .inl t_boxes)), (q_t_left, .inl (cZ, 240, .inl o_t_left)), (q_t_pairs, .inl (cI, 240, .inl o_t_pairs))] A r) ([.ref q_t] : List Value).toArray s 0 0 A) (F0 m 134 ls [])) → ∀ (n : Nat) (x4 : Int32) (x5 : Int32) (w_t_left : (Nat → Int32)) (w_t_pairs : (Nat → Int32)) (H : Heap) (locs : List Loc) (ls : Array Slot), Wd D A s.heap [(q_t, .inr (7, [.ref q_t_boxes, .ref q_t_next, .int t_done, .ref q_t_left, .ref q_t_pairs, .int t_many, .ref q_t_lengths, .ref q_t_riggings, .int t_told, .ref q_t_toldLength, .ref q_t_toldRigging, .ref q_t_toldRoom, .int t_ringN, .ref q_t_ring, .ref q_t_was, .ref q_t_saved, .ref q_t_isThere, .ref q_t_forms, .ref q_t_sizes, .ref q_t_items, .ref q_t_moved, .int t_finding])), (q_t_boxes, .inl (cZ, 240, .inl t_boxes)), (q_t_left, .inl (cZ, 240, .inl w_t_left)), (q_t_pairs, .inl (cI, 240, .inl w_t_pairs))] H locs → lv_has ls 6 [(0, .ref q_t), (1, .int x1), (2, .int x2), (3, .int x3), (4, .int x4), (5, .int x5)] → L_X7_pairRounds_59 N x1 x3 K n x4 x5 w_t_left w_t_pairs = some (r, o_t_left, o_t_pairs) → W p l e ({ frames := 1, cells := 0, slots := 0, locals := 22 } : Room) s m ([.ref q_t] : List Value).toArray below meth c H locs 0 0 (MQ below (QcI D [(q_t, .inr (7, [.ref q_t_boxes, .ref q_t_next, .int t_done, .ref q_t_left, .ref q_t_pairs, .int t_many, .ref q_t_lengths, .ref q_t_riggings, .int t_told, .ref q_t_toldLength, .ref q_t_toldRigging, .ref q_t_toldRoom, .int t_ringN, .ref q_t_ring, .ref q_t_was, .ref q_t_saved, .ref q_t_isThere, .ref q_t_forms, .ref q_t_sizes, .ref q_t_items, .ref q_t_moved, .int t_finding])), (q_t_boxes, .inl (cZ, 240, .inl t_boxes)), (q_t_left, .inl (cZ, 240, .inl o_t_left)), (q_t_pairs, .inl (cI, 240, .inl o_t_pairs))] A r) ([.ref q_t] : List Value).toArray s 0 0 A) (F0 m 59 ls []) := by
    intro x1 x2 x3 K hKx n
    induction n with
    | zero =>
      intro x4 x5 w_t_left w_t_pairs H locs ls hw hl hf
      rw [L_X7_pairRounds_59] at hf
      cases hf
    | succ n ih =>
      intro x4 x5 w_t_left w_t_pairs H locs ls hw hl hf
      rw [L_X7_pairRounds_59] at hf
      refine lv_iload hx hb dX7_pairRounds_59 (lv_at hl 5 rfl) ?_
      refine lv_iload_n hx hb dX7_pairRounds_61 rfl (lv_at hl 1 rfl) ?_
      refine lv_icmp_ge (tgt := 134) hx hb dX7_pairRounds_62 (by decide) (fun c9 => ?_) (fun c9 => ?_)
      · have hf := (if_pos c9).symm.trans hf
        exact hKx x4 w_t_left w_t_pairs _ _ _ hw (lv_sub hl [0, 2, 3, 4] rfl) hf
      · have hf := (if_neg c9).symm.trans hf
        refine lv_aload_n hx hb dX7_pairRounds_65 rfl (lv_at hl 0 rfl) ?_
        refine g_get (ci := 7) (C := RX7) (T := TX7) (N := 22) S hinX7 hK hw 0 3 k16 dX7_pairRounds_66 rfl rfl (by decide) rfl ?_
        refine lv_iload hx hb dX7_pairRounds_69 (lv_at hl 5 rfl) ?_
        obtain ⟨b10, hf⟩ := ck_some hf
        refine g_zald S hK hw 2 1 b10 dX7_pairRounds_71 rfl rfl ?_
        refine lv_if_eq (tgt := 111) hx hb dX7_pairRounds_72 (by decide) (fun c11 => ?_) (fun c11 => ?_)
        · have hf := (if_pos c11).symm.trans hf
          refine lv_aload_n hx hb dX7_pairRounds_111 rfl (lv_at hl 0 rfl) ?_
          refine g_get (ci := 7) (C := RX7) (T := TX7) (N := 22) S hinX7 hK hw 0 3 k16 dX7_pairRounds_112 rfl rfl (by decide) rfl ?_
          refine lv_iload hx hb dX7_pairRounds_115 (lv_at hl 4 rfl) ?_
          refine lv_aload_n hx hb dX7_pairRounds_117 rfl (lv_at hl 0 rfl) ?_
          refine g_get (ci := 7) (C := RX7) (T := TX7) (N := 22) S hinX7 hK hw 0 3 k16 dX7_pairRounds_118 rfl rfl (by decide) rfl ?_
          refine lv_iload hx hb dX7_pairRounds_121 (lv_at hl 5 rfl) ?_
          obtain ⟨b12, hf⟩ := ck_some hf
          refine g_zald S hK hw 2 1 b12 dX7_pairRounds_123 rfl rfl ?_
          obtain ⟨b13, hf⟩ := ck_some hf
          refine g_zast (ws' := [(q_t, .inr (7, [.ref q_t_boxes, .ref q_t_next, .int t_done, .ref q_t_left, .ref q_t_pairs, .int t_many, .ref q_t_lengths, .ref q_t_riggings, .int t_told, .ref q_t_toldLength, .ref q_t_toldRigging, .ref q_t_toldRoom, .int t_ringN, .ref q_t_ring, .ref q_t_was, .ref q_t_saved, .ref q_t_isThere, .ref q_t_forms, .ref q_t_sizes, .ref q_t_items, .ref q_t_moved, .int t_finding])), (q_t_boxes, .inl (cZ, 240, .inl t_boxes)), (q_t_left, .inl (cZ, 240, .inl (upd w_t_left x4.toNatClampNeg (vp_nar .boolean (w_t_left x5.toNatClampNeg))))), (q_t_pairs, .inl (cI, 240, .inl w_t_pairs))]) S hK hw 2 1 b13 dX7_pairRounds_124 rfl rfl rfl (fun H locs hw => ?_)
          refine lv_iinc (v := (x4 + (1 : Int32))) (lv' := [(4, .int (x4 + (1 : Int32))), (0, .ref q_t), (1, .int x1), (2, .int x2), (3, .int x3), (5, .int x5)]) hx hb dX7_pairRounds_125 hl (k := 4) rfl rfl (by decide) rfl (fun ls hl => ?_)
          refine lv_iinc (v := (x5 + (1 : Int32))) (lv' := [(5, .int (x5 + (1 : Int32))), (4, .int (x4 + (1 : Int32))), (0, .ref q_t), (1, .int x1), (2, .int x2), (3, .int x3)]) hx hb dX7_pairRounds_128 hl (k := 5) rfl rfl (by decide) rfl (fun ls hl => ?_)
          refine lv_goto (tgt := 59) hx hb dX7_pairRounds_131 (by decide) ?_
          exact ih (x4 + (1 : Int32)) (x5 + (1 : Int32)) (upd w_t_left x4.toNatClampNeg (vp_nar .boolean (w_t_left x5.toNatClampNeg))) w_t_pairs _ _ _ hw (lv_sub hl [2, 3, 4, 5, 1, 0] rfl) hf
        · have hf := (if_neg c11).symm.trans hf
          refine lv_iload hx hb dX7_pairRounds_75 (lv_at hl 5 rfl) ?_
          refine lv_iconst (v := (1 : Int32)) hx hb dX7_pairRounds_77 (by decide) ?_
          refine lv_iadd hx hb dX7_pairRounds_78 ?_
          refine lv_iload_n hx hb dX7_pairRounds_79 rfl (lv_at hl 1 rfl) ?_
          refine lv_icmp_eq (tgt := 95) hx hb dX7_pairRounds_80 (by decide) (fun c14 => ?_) (fun c14 => ?_)
          · have hf := (if_pos c14).symm.trans hf
            refine lv_aload_n hx hb dX7_pairRounds_95 rfl (lv_at hl 0 rfl) ?_
            refine g_get (ci := 7) (C := RX7) (T := TX7) (N := 22) S hinX7 hK hw 0 4 k19 dX7_pairRounds_96 rfl rfl (by decide) rfl ?_
            refine lv_iload_n hx hb dX7_pairRounds_99 rfl (lv_at hl 3 rfl) ?_
            refine lv_dup2_11 hx hb dX7_pairRounds_100 rfl rfl ?_
            obtain ⟨b15, hf⟩ := ck_some hf
            refine g_iald S hK hw 3 0 b15 dX7_pairRounds_101 rfl rfl ?_
            refine lv_iconst (v := (1 : Int32)) hx hb dX7_pairRounds_102 (by decide) ?_
            refine lv_iadd hx hb dX7_pairRounds_103 ?_
            obtain ⟨b16, hf⟩ := ck_some hf
            refine g_iast (ws' := [(q_t, .inr (7, [.ref q_t_boxes, .ref q_t_next, .int t_done, .ref q_t_left, .ref q_t_pairs, .int t_many, .ref q_t_lengths, .ref q_t_riggings, .int t_told, .ref q_t_toldLength, .ref q_t_toldRigging, .ref q_t_toldRoom, .int t_ringN, .ref q_t_ring, .ref q_t_was, .ref q_t_saved, .ref q_t_isThere, .ref q_t_forms, .ref q_t_sizes, .ref q_t_items, .ref q_t_moved, .int t_finding])), (q_t_boxes, .inl (cZ, 240, .inl t_boxes)), (q_t_left, .inl (cZ, 240, .inl w_t_left)), (q_t_pairs, .inl (cI, 240, .inl (upd w_t_pairs x3.toNatClampNeg ((w_t_pairs x3.toNatClampNeg) + (1 : Int32)))))]) S hK hw 3 0 b16 dX7_pairRounds_104 rfl rfl rfl (fun H locs hw => ?_)
            refine lv_iinc (v := (x5 + (2 : Int32))) (lv' := [(5, .int (x5 + (2 : Int32))), (0, .ref q_t), (1, .int x1), (2, .int x2), (3, .int x3), (4, .int x4)]) hx hb dX7_pairRounds_105 hl (k := 5) rfl rfl (by decide) rfl (fun ls hl => ?_)
            refine lv_goto (tgt := 59) hx hb dX7_pairRounds_108 (by decide) ?_
            exact ih x4 (x5 + (2 : Int32)) w_t_left (upd w_t_pairs x3.toNatClampNeg ((w_t_pairs x3.toNatClampNeg) + (1 : Int32))) _ _ _ hw (lv_sub hl [1, 2, 3, 4, 5, 0] rfl) hf
          · have hf := (if_neg c14).symm.trans hf
            refine lv_aload_n hx hb dX7_pairRounds_83 rfl (lv_at hl 0 rfl) ?_
            refine g_get (ci := 7) (C := RX7) (T := TX7) (N := 22) S hinX7 hK hw 0 3 k16 dX7_pairRounds_84 rfl rfl (by decide) rfl ?_
            refine lv_iload hx hb dX7_pairRounds_87 (lv_at hl 5 rfl) ?_
            refine lv_iconst (v := (1 : Int32)) hx hb dX7_pairRounds_89 (by decide) ?_
            refine lv_iadd hx hb dX7_pairRounds_90 ?_
            obtain ⟨b17, hf⟩ := ck_some hf
            refine g_zald S hK hw 2 1 b17 dX7_pairRounds_91 rfl rfl ?_
            refine lv_if_ne (tgt := 111) hx hb dX7_pairRounds_92 (by decide) (fun c18 => ?_) (fun c18 => ?_)
            · have hf := (if_neg c18).symm.trans hf
              refine lv_aload_n hx hb dX7_pairRounds_111 rfl (lv_at hl 0 rfl) ?_
              refine g_get (ci := 7) (C := RX7) (T := TX7) (N := 22) S hinX7 hK hw 0 3 k16 dX7_pairRounds_112 rfl rfl (by decide) rfl ?_
              refine lv_iload hx hb dX7_pairRounds_115 (lv_at hl 4 rfl) ?_
              refine lv_aload_n hx hb dX7_pairRounds_117 rfl (lv_at hl 0 rfl) ?_
              refine g_get (ci := 7) (C := RX7) (T := TX7) (N := 22) S hinX7 hK hw 0 3 k16 dX7_pairRounds_118 rfl rfl (by decide) rfl ?_
              refine lv_iload hx hb dX7_pairRounds_121 (lv_at hl 5 rfl) ?_
              obtain ⟨b19, hf⟩ := ck_some hf
              refine g_zald S hK hw 2 1 b19 dX7_pairRounds_123 rfl rfl ?_
              obtain ⟨b20, hf⟩ := ck_some hf
              refine g_zast (ws' := [(q_t, .inr (7, [.ref q_t_boxes, .ref q_t_next, .int t_done, .ref q_t_left, .ref q_t_pairs, .int t_many, .ref q_t_lengths, .ref q_t_riggings, .int t_told, .ref q_t_toldLength, .ref q_t_toldRigging, .ref q_t_toldRoom, .int t_ringN, .ref q_t_ring, .ref q_t_was, .ref q_t_saved, .ref q_t_isThere, .ref q_t_forms, .ref q_t_sizes, .ref q_t_items, .ref q_t_moved, .int t_finding])), (q_t_boxes, .inl (cZ, 240, .inl t_boxes)), (q_t_left, .inl (cZ, 240, .inl (upd w_t_left x4.toNatClampNeg (vp_nar .boolean (w_t_left x5.toNatClampNeg))))), (q_t_pairs, .inl (cI, 240, .inl w_t_pairs))]) S hK hw 2 1 b20 dX7_pairRounds_124 rfl rfl rfl (fun H locs hw => ?_)
              refine lv_iinc (v := (x4 + (1 : Int32))) (lv' := [(4, .int (x4 + (1 : Int32))), (0, .ref q_t), (1, .int x1), (2, .int x2), (3, .int x3), (5, .int x5)]) hx hb dX7_pairRounds_125 hl (k := 4) rfl rfl (by decide) rfl (fun ls hl => ?_)
              refine lv_iinc (v := (x5 + (1 : Int32))) (lv' := [(5, .int (x5 + (1 : Int32))), (4, .int (x4 + (1 : Int32))), (0, .ref q_t), (1, .int x1), (2, .int x2), (3, .int x3)]) hx hb dX7_pairRounds_128 hl (k := 5) rfl rfl (by decide) rfl (fun ls hl => ?_)
              refine lv_goto (tgt := 59) hx hb dX7_pairRounds_131 (by decide) ?_
              exact ih (x4 + (1 : Int32)) (x5 + (1 : Int32)) (upd w_t_left x4.toNatClampNeg (vp_nar .boolean (w_t_left x5.toNatClampNeg))) w_t_pairs _ _ _ hw (lv_sub hl [2, 3, 4, 5, 1, 0] rfl) hf
            · have hf := (if_pos c18).symm.trans hf
              refine lv_aload_n hx hb dX7_pairRounds_95 rfl (lv_at hl 0 rfl) ?_
              refine g_get (ci := 7) (C := RX7) (T := TX7) (N := 22) S hinX7 hK hw 0 4 k19 dX7_pairRounds_96 rfl rfl (by decide) rfl ?_
              refine lv_iload_n hx hb dX7_pairRounds_99 rfl (lv_at hl 3 rfl) ?_
              refine lv_dup2_11 hx hb dX7_pairRounds_100 rfl rfl ?_
              obtain ⟨b21, hf⟩ := ck_some hf
              refine g_iald S hK hw 3 0 b21 dX7_pairRounds_101 rfl rfl ?_
              refine lv_iconst (v := (1 : Int32)) hx hb dX7_pairRounds_102 (by decide) ?_
              refine lv_iadd hx hb dX7_pairRounds_103 ?_
              obtain ⟨b22, hf⟩ := ck_some hf
              refine g_iast (ws' := [(q_t, .inr (7, [.ref q_t_boxes, .ref q_t_next, .int t_done, .ref q_t_left, .ref q_t_pairs, .int t_many, .ref q_t_lengths, .ref q_t_riggings, .int t_told, .ref q_t_toldLength, .ref q_t_toldRigging, .ref q_t_toldRoom, .int t_ringN, .ref q_t_ring, .ref q_t_was, .ref q_t_saved, .ref q_t_isThere, .ref q_t_forms, .ref q_t_sizes, .ref q_t_items, .ref q_t_moved, .int t_finding])), (q_t_boxes, .inl (cZ, 240, .inl t_boxes)), (q_t_left, .inl (cZ, 240, .inl w_t_left)), (q_t_pairs, .inl (cI, 240, .inl (upd w_t_pairs x3.toNatClampNeg ((w_t_pairs x3.toNatClampNeg) + (1 : Int32)))))]) S hK hw 3 0 b22 dX7_pairRounds_104 rfl rfl rfl (fun H locs hw => ?_)
              refine lv_iinc (v := (x5 + (2 : Int32))) (lv' := [(5, .int (x5 + (2 : Int32))), (0, .ref q_t), (1, .int x1), (2, .int x2), (3, .int x3), (4, .int x4)]) hx hb dX7_pairRounds_105 hl (k := 5) rfl rfl (by decide) rfl (fun ls hl => ?_)
              refine lv_goto (tgt := 59) hx hb dX7_pairRounds_108 (by decide) ?_
              exact ih x4 (x5 + (2 : Int32)) w_t_left (upd w_t_pairs x3.toNatClampNeg ((w_t_pairs x3.toNatClampNeg) + (1 : Int32))) _ _ _ hw (lv_sub hl [1, 2, 3, 4, 5, 0] rfl) hf
  have Lp42 : ∀  (K : Int32 → (Nat → Int32) → (Nat → Int32) → Option (Int32 × (Nat → Int32) × (Nat → Int32))), (∀ (z3 : Int32) (z_t_left : (Nat → Int32)) (z_t_pairs : (Nat → Int32)) (H : Heap) (locs : List Loc) (ls : Array Slot), Wd D A s.heap [(q_t, .inr (7, [.ref q_t_boxes, .ref q_t_next, .int t_done, .ref q_t_left, .ref q_t_pairs, .int t_many, .ref q_t_lengths, .ref q_t_riggings, .int t_told, .ref q_t_toldLength, .ref q_t_toldRigging, .ref q_t_toldRoom, .int t_ringN, .ref q_t_ring, .ref q_t_was, .ref q_t_saved, .ref q_t_isThere, .ref q_t_forms, .ref q_t_sizes, .ref q_t_items, .ref q_t_moved, .int t_finding])), (q_t_boxes, .inl (cZ, 240, .inl t_boxes)), (q_t_left, .inl (cZ, 240, .inl z_t_left)), (q_t_pairs, .inl (cI, 240, .inl z_t_pairs))] H locs → lv_has ls 6 [(3, .int z3)] → K z3 z_t_left z_t_pairs = some (r, o_t_left, o_t_pairs) → W p l e ({ frames := 1, cells := 0, slots := 0, locals := 22 } : Room) s m ([.ref q_t] : List Value).toArray below meth c H locs 0 0 (MQ below (QcI D [(q_t, .inr (7, [.ref q_t_boxes, .ref q_t_next, .int t_done, .ref q_t_left, .ref q_t_pairs, .int t_many, .ref q_t_lengths, .ref q_t_riggings, .int t_told, .ref q_t_toldLength, .ref q_t_toldRigging, .ref q_t_toldRoom, .int t_ringN, .ref q_t_ring, .ref q_t_was, .ref q_t_saved, .ref q_t_isThere, .ref q_t_forms, .ref q_t_sizes, .ref q_t_items, .ref q_t_moved, .int t_finding])), (q_t_boxes, .inl (cZ, 240, .inl t_boxes)), (q_t_left, .inl (cZ, 240, .inl o_t_left)), (q_t_pairs, .inl (cI, 240, .inl o_t_pairs))] A r) ([.ref q_t] : List Value).toArray s 0 0 A) (F0 m 152 ls [])) → ∀ (n : Nat) (x1 : Int32) (x2 : Int32) (x3 : Int32) (w_t_left : (Nat → Int32)) (w_t_pairs : (Nat → Int32)) (H : Heap) (locs : List Loc) (ls : Array Slot), Wd D A s.heap [(q_t, .inr (7, [.ref q_t_boxes, .ref q_t_next, .int t_done, .ref q_t_left, .ref q_t_pairs, .int t_many, .ref q_t_lengths, .ref q_t_riggings, .int t_told, .ref q_t_toldLength, .ref q_t_toldRigging, .ref q_t_toldRoom, .int t_ringN, .ref q_t_ring, .ref q_t_was, .ref q_t_saved, .ref q_t_isThere, .ref q_t_forms, .ref q_t_sizes, .ref q_t_items, .ref q_t_moved, .int t_finding])), (q_t_boxes, .inl (cZ, 240, .inl t_boxes)), (q_t_left, .inl (cZ, 240, .inl w_t_left)), (q_t_pairs, .inl (cI, 240, .inl w_t_pairs))] H locs → lv_has ls 6 [(0, .ref q_t), (1, .int x1), (2, .int x2), (3, .int x3)] → L_X7_pairRounds_42 N K n x1 x2 x3 w_t_left w_t_pairs = some (r, o_t_left, o_t_pairs) → W p l e ({ frames := 1, cells := 0, slots := 0, locals := 22 } : Room) s m ([.ref q_t] : List Value).toArray below meth c H locs 0 0 (MQ below (QcI D [(q_t, .inr (7, [.ref q_t_boxes, .ref q_t_next, .int t_done, .ref q_t_left, .ref q_t_pairs, .int t_many, .ref q_t_lengths, .ref q_t_riggings, .int t_told, .ref q_t_toldLength, .ref q_t_toldRigging, .ref q_t_toldRoom, .int t_ringN, .ref q_t_ring, .ref q_t_was, .ref q_t_saved, .ref q_t_isThere, .ref q_t_forms, .ref q_t_sizes, .ref q_t_items, .ref q_t_moved, .int t_finding])), (q_t_boxes, .inl (cZ, 240, .inl t_boxes)), (q_t_left, .inl (cZ, 240, .inl o_t_left)), (q_t_pairs, .inl (cI, 240, .inl o_t_pairs))] A r) ([.ref q_t] : List Value).toArray s 0 0 A) (F0 m 42 ls []) := by
    intro  K hKx n
    induction n with
    | zero =>
      intro x1 x2 x3 w_t_left w_t_pairs H locs ls hw hl hf
      rw [L_X7_pairRounds_42] at hf
      cases hf
    | succ n ih =>
      intro x1 x2 x3 w_t_left w_t_pairs H locs ls hw hl hf
      rw [L_X7_pairRounds_42] at hf
      refine lv_iload_n hx hb dX7_pairRounds_42 rfl (lv_at hl 2 rfl) ?_
      refine lv_if_le (tgt := 152) hx hb dX7_pairRounds_43 (by decide) (fun c7 => ?_) (fun c7 => ?_)
      · have hf := (if_pos c7).symm.trans hf
        exact hKx x3 w_t_left w_t_pairs _ _ _ hw (lv_sub hl [3] rfl) hf
      · have hf := (if_neg c7).symm.trans hf
        refine lv_iconst (v := (0 : Int32)) hx hb dX7_pairRounds_46 (by decide) ?_
        refine lv_istore (lv' := [(4, .int (0 : Int32)), (0, .ref q_t), (1, .int x1), (2, .int x2), (3, .int x3)]) hx hb dX7_pairRounds_47 hl (by decide) rfl (fun ls hl => ?_)
        refine lv_aload_n hx hb dX7_pairRounds_49 rfl (lv_at hl 1 rfl) ?_
        refine g_get (ci := 7) (C := RX7) (T := TX7) (N := 22) S hinX7 hK hw 0 4 k19 dX7_pairRounds_50 rfl rfl (by decide) rfl ?_
        refine lv_iload_n hx hb dX7_pairRounds_53 rfl (lv_at hl 4 rfl) ?_
        refine lv_iconst (v := (0 : Int32)) hx hb dX7_pairRounds_54 (by decide) ?_
        obtain ⟨b8, hf⟩ := ck_some hf
        refine g_iast (ws' := [(q_t, .inr (7, [.ref q_t_boxes, .ref q_t_next, .int t_done, .ref q_t_left, .ref q_t_pairs, .int t_many, .ref q_t_lengths, .ref q_t_riggings, .int t_told, .ref q_t_toldLength, .ref q_t_toldRigging, .ref q_t_toldRoom, .int t_ringN, .ref q_t_ring, .ref q_t_was, .ref q_t_saved, .ref q_t_isThere, .ref q_t_forms, .ref q_t_sizes, .ref q_t_items, .ref q_t_moved, .int t_finding])), (q_t_boxes, .inl (cZ, 240, .inl t_boxes)), (q_t_left, .inl (cZ, 240, .inl w_t_left)), (q_t_pairs, .inl (cI, 240, .inl (upd w_t_pairs x3.toNatClampNeg (0 : Int32))))]) S hK hw 3 0 b8 dX7_pairRounds_55 rfl rfl rfl (fun H locs hw => ?_)
        refine lv_iconst (v := (0 : Int32)) hx hb dX7_pairRounds_56 (by decide) ?_
        refine lv_istore (lv' := [(5, .int (0 : Int32)), (4, .int (0 : Int32)), (0, .ref q_t), (1, .int x1), (2, .int x2), (3, .int x3)]) hx hb dX7_pairRounds_57 hl (by decide) rfl (fun ls hl => ?_)
        refine Lp59 x1 x2 x3 _ (fun y23 u24 u25 H locs ls hw hl hf => ?_) N (0 : Int32) (0 : Int32) w_t_left (upd w_t_pairs x3.toNatClampNeg (0 : Int32)) _ _ _ hw (lv_sub hl [2, 3, 4, 5, 1, 0] rfl) hf
        refine lv_iload_n hx hb dX7_pairRounds_134 rfl (lv_at hl 1 rfl) ?_
        refine lv_aload_n hx hb dX7_pairRounds_135 rfl (lv_at hl 0 rfl) ?_
        refine g_get (ci := 7) (C := RX7) (T := TX7) (N := 22) S hinX7 hK hw 0 4 k19 dX7_pairRounds_136 rfl rfl (by decide) rfl ?_
        refine lv_iload_n hx hb dX7_pairRounds_139 rfl (lv_at hl 2 rfl) ?_
        obtain ⟨b26, hf⟩ := ck_some hf
        refine g_iald S hK hw 3 0 b26 dX7_pairRounds_140 rfl rfl ?_
        refine lv_isub hx hb dX7_pairRounds_141 ?_
        refine lv_istore_n (lv' := [(2, .int (x2 - (u25 x3.toNatClampNeg))), (0, .ref q_t), (3, .int x3), (4, .int y23)]) hx hb dX7_pairRounds_142 rfl hl (by decide) rfl (fun ls hl => ?_)
        refine lv_iload hx hb dX7_pairRounds_143 (lv_at hl 3 rfl) ?_
        refine lv_istore_n (lv' := [(1, .int y23), (2, .int (x2 - (u25 x3.toNatClampNeg))), (0, .ref q_t), (3, .int x3), (4, .int y23)]) hx hb dX7_pairRounds_145 rfl hl (by decide) rfl (fun ls hl => ?_)
        refine lv_iinc (v := (x3 + (1 : Int32))) (lv' := [(3, .int (x3 + (1 : Int32))), (1, .int y23), (2, .int (x2 - (u25 x3.toNatClampNeg))), (0, .ref q_t), (4, .int y23)]) hx hb dX7_pairRounds_146 hl (k := 3) rfl rfl (by decide) rfl (fun ls hl => ?_)
        refine lv_goto (tgt := 42) hx hb dX7_pairRounds_149 (by decide) ?_
        exact ih y23 (x2 - (u25 x3.toNatClampNeg)) (x3 + (1 : Int32)) u24 u25 _ _ _ hw (lv_sub hl [3, 1, 2, 0] rfl) hf
  unfold f_X7_pairRounds at hf
  refine lv_sipush (v := (240 : Int32)) hx hb dX7_pairRounds_0 (by decide) ?_
  refine lv_istore_n (lv' := [(1, .int (240 : Int32)), (0, .ref q_t)]) hx hb dX7_pairRounds_3 rfl hl (by decide) rfl (fun ls hl => ?_)
  refine lv_aload_n hx hb dX7_pairRounds_4 rfl (lv_at hl 1 rfl) ?_
  obtain ⟨r1, h2, hf⟩ := bd1_some hf
  refine cl_i (wr := [(q_t_left, .inl (cZ, 240, .inl t_left)), (q_t_pairs, .inl (cI, 240, .inl t_pairs))]) (ws' := [(q_t, .inr (7, [.ref q_t_boxes, .ref q_t_next, .int t_done, .ref q_t_left, .ref q_t_pairs, .int t_many, .ref q_t_lengths, .ref q_t_riggings, .int t_told, .ref q_t_toldLength, .ref q_t_toldRigging, .ref q_t_toldRoom, .int t_ringN, .ref q_t_ring, .ref q_t_was, .ref q_t_saved, .ref q_t_isThere, .ref q_t_forms, .ref q_t_sizes, .ref q_t_items, .ref q_t_moved, .int t_finding])), (q_t_boxes, .inl (cZ, 240, .inl t_boxes)), (q_t_left, .inl (cZ, 240, .inl t_left)), (q_t_pairs, .inl (cI, 240, .inl t_pairs))]) hA hw [0, 1] [2, 3] [2, 3, 0, 1] rfl rfl rfl (by decide) rfl rfl (va_runV (As := []) (rest := []) S (c_X7_balls l D cI cZ cJ cO _ q_t q_t_boxes q_t_next q_t_left q_t_pairs q_t_lengths q_t_riggings q_t_toldLength q_t_toldRigging q_t_toldRoom q_t_ring q_t_was q_t_saved q_t_isThere q_t_forms q_t_sizes q_t_items q_t_moved N t_done t_many t_told t_ringN t_finding t_boxes r1 h2) (cwV 0 hts gX7_pairRounds_X7_balls rfl rfl rfl (by decide +kernel) ⟨Nat.le_of_ble_eq_true rfl, Nat.le_of_ble_eq_true rfl⟩) (pre_V hK hN hw [0, 1] rfl rfl (C := RX7) (T := TX7) (N := 22) (ci := 7) (q0 := 0) rfl rfl) rfl rfl hl.1 rfl (lv_room (Nat.le_of_ble_eq_true rfl)) dX7_pairRounds_5 ⟨Nat.zero_le _, Nat.zero_le _⟩) (fun H locs hw => ?_)
  refine lv_istore_n (lv' := [(2, .int r1), (1, .int (240 : Int32)), (0, .ref q_t)]) hx hb dX7_pairRounds_8 rfl hl (by decide) rfl (fun ls hl => ?_)
  refine lv_iconst (v := (0 : Int32)) hx hb dX7_pairRounds_9 (by decide) ?_
  refine lv_istore_n (lv' := [(3, .int (0 : Int32)), (2, .int r1), (1, .int (240 : Int32)), (0, .ref q_t)]) hx hb dX7_pairRounds_10 rfl hl (by decide) rfl (fun ls hl => ?_)
  refine lv_iconst (v := (0 : Int32)) hx hb dX7_pairRounds_11 (by decide) ?_
  refine lv_istore (lv' := [(4, .int (0 : Int32)), (3, .int (0 : Int32)), (2, .int r1), (1, .int (240 : Int32)), (0, .ref q_t)]) hx hb dX7_pairRounds_12 hl (by decide) rfl (fun ls hl => ?_)
  refine Lp14 (240 : Int32) r1 (0 : Int32) t_pairs _ (fun u6 H locs ls hw hl hf => ?_) N (0 : Int32) t_left _ _ _ hw (lv_sub hl [4, 3, 2, 1, 0] rfl) hf
  refine Lp42  _ (fun y27 u28 u29 H locs ls hw hl hf => ?_) N (240 : Int32) r1 (0 : Int32) u6 t_pairs _ _ _ hw (lv_sub hl [0, 1, 2, 3] rfl) hf
  refine lv_iload_n hx hb dX7_pairRounds_152 rfl (lv_at hl 0 rfl) ?_
  obtain ⟨rfl, rfl, rfl⟩ := pr3 (Option.some.inj hf)
  exact rt_i S hr hlk hw dX7_pairRounds_153

def L_X7_row_7 (N : Nat) (t_boxes : (Nat → Int32)) (K : Int32 → Int32 → Option (Int32 × (Nat → Int32) × (Nat → Int32))) : Nat → Int32 → Int32 → Int32 → Option (Int32 × (Nat → Int32) × (Nat → Int32))
  | 0, _, _, _ => none
  | n + 1, x2, x3, x4 => (if (240 : Int32) ≤ x4 then (K x2 x3) else (if x2 = (-1 : Int32) then (ck (inb x4 240) (if (t_boxes x4.toNatClampNeg) = (0 : Int32) then (ck (inb x4 240) (if (t_boxes x4.toNatClampNeg) = (0 : Int32) then (L_X7_row_7 N t_boxes K n x2 x3 (x4 + (1 : Int32))) else (L_X7_row_7 N t_boxes K n x2 x4 (x4 + (1 : Int32))))) else (ck (inb x4 240) (if (t_boxes x4.toNatClampNeg) = (0 : Int32) then (L_X7_row_7 N t_boxes K n x4 x3 (x4 + (1 : Int32))) else (L_X7_row_7 N t_boxes K n x4 x4 (x4 + (1 : Int32))))))) else (ck (inb x4 240) (if (t_boxes x4.toNatClampNeg) = (0 : Int32) then (L_X7_row_7 N t_boxes K n x2 x3 (x4 + (1 : Int32))) else (L_X7_row_7 N t_boxes K n x2 x4 (x4 + (1 : Int32)))))))

def f_X7_row (N : Nat) (p1 : Int32) (t_boxes : (Nat → Int32)) (t_left : (Nat → Int32)) (t_pairs : (Nat → Int32)) : Option (Int32 × (Nat → Int32) × (Nat → Int32)) :=
  (L_X7_row_7 N t_boxes (fun y11 y12 => (if p1 = (0 : Int32) then (bd1 (f_X7_balls N t_boxes) (fun r14 => (some (r14, t_left, t_pairs)))) else (if p1 = (1 : Int32) then (some (y11, t_left, t_pairs)) else (if p1 = (2 : Int32) then (some (y12, t_left, t_pairs)) else (if p1 = (3 : Int32) then (bd3 (f_X7_pairRounds N t_boxes t_left t_pairs) (fun r19 u20 u21 => (if r19 = (0 : Int32) then (some ((0 : Int32), u20, u21)) else (ck (inb (0 : Int32) 240) (some ((u21 (0 : Int32).toNatClampNeg), u20, u21)))))) else (some ((-2 : Int32), t_left, t_pairs))))))) N (-1 : Int32) (-1 : Int32) (0 : Int32))

set_option maxHeartbeats 4000000 in
set_option maxRecDepth 100000 in
theorem c_X7_row (l : Launch) (D : va_G) (cI cZ cJ cO : ClassId) (sz : Nat) (q_t q_t_boxes q_t_next q_t_left q_t_pairs q_t_lengths q_t_riggings q_t_toldLength q_t_toldRigging q_t_toldRoom q_t_ring q_t_was q_t_saved q_t_isThere q_t_forms q_t_sizes q_t_items q_t_moved : Nat) (N : Nat) (p1 : Int32) (t_done : Int32) (t_many : Int32) (t_told : Int32) (t_ringN : Int32) (t_finding : Int32) (t_boxes : (Nat → Int32)) (t_left : (Nat → Int32)) (t_pairs : (Nat → Int32)) (r : Int32) (o_t_left : (Nat → Int32)) (o_t_pairs : (Nat → Int32)) (hf : f_X7_row N p1 t_boxes t_left t_pairs = some (r, o_t_left, o_t_pairs)) : Met l yX7_row wsX7_row ({ frames := 2, cells := 0, slots := 0, locals := 47 }) (PreC D (TY cI cZ cJ cO) [.ref q_t, .int p1] [(q_t, .inr (7, [.ref q_t_boxes, .ref q_t_next, .int t_done, .ref q_t_left, .ref q_t_pairs, .int t_many, .ref q_t_lengths, .ref q_t_riggings, .int t_told, .ref q_t_toldLength, .ref q_t_toldRigging, .ref q_t_toldRoom, .int t_ringN, .ref q_t_ring, .ref q_t_was, .ref q_t_saved, .ref q_t_isThere, .ref q_t_forms, .ref q_t_sizes, .ref q_t_items, .ref q_t_moved, .int t_finding])), (q_t_boxes, .inl (cZ, 240, .inl t_boxes)), (q_t_left, .inl (cZ, 240, .inl t_left)), (q_t_pairs, .inl (cI, 240, .inl t_pairs))] sz) (QcI D [(q_t, .inr (7, [.ref q_t_boxes, .ref q_t_next, .int t_done, .ref q_t_left, .ref q_t_pairs, .int t_many, .ref q_t_lengths, .ref q_t_riggings, .int t_told, .ref q_t_toldLength, .ref q_t_toldRigging, .ref q_t_toldRoom, .int t_ringN, .ref q_t_ring, .ref q_t_was, .ref q_t_saved, .ref q_t_isThere, .ref q_t_forms, .ref q_t_sizes, .ref q_t_items, .ref q_t_moved, .int t_finding])), (q_t_boxes, .inl (cZ, 240, .inl t_boxes)), (q_t_left, .inl (cZ, 240, .inl o_t_left)), (q_t_pairs, .inl (cI, 240, .inl o_t_pairs))] (va_A [(q_t, .inr (7, [.ref q_t_boxes, .ref q_t_next, .int t_done, .ref q_t_left, .ref q_t_pairs, .int t_many, .ref q_t_lengths, .ref q_t_riggings, .int t_told, .ref q_t_toldLength, .ref q_t_toldRigging, .ref q_t_toldRoom, .int t_ringN, .ref q_t_ring, .ref q_t_was, .ref q_t_saved, .ref q_t_isThere, .ref q_t_forms, .ref q_t_sizes, .ref q_t_items, .ref q_t_moved, .int t_finding])), (q_t_boxes, .inl (cZ, 240, .inl t_boxes)), (q_t_left, .inl (cZ, 240, .inl t_left)), (q_t_pairs, .inl (cI, 240, .inl t_pairs))] sz) r) 0 0 (va_A [(q_t, .inr (7, [.ref q_t_boxes, .ref q_t_next, .int t_done, .ref q_t_left, .ref q_t_pairs, .int t_many, .ref q_t_lengths, .ref q_t_riggings, .int t_told, .ref q_t_toldLength, .ref q_t_toldRigging, .ref q_t_toldRoom, .int t_ringN, .ref q_t_ring, .ref q_t_was, .ref q_t_saved, .ref q_t_isThere, .ref q_t_forms, .ref q_t_sizes, .ref q_t_items, .ref q_t_moved, .int t_finding])), (q_t_boxes, .inl (cZ, 240, .inl t_boxes)), (q_t_left, .inl (cZ, 240, .inl t_left)), (q_t_pairs, .inl (cI, 240, .inl t_pairs))] sz) := by
  refine ctr (cc := cX7_row) (maxL := 5) (ret := (some .int)) (by decide) rfl (Nat.le_of_ble_eq_true rfl) ?_
  intro p e s m below meth c S hr hlk hnm hK hN hsz hA hw ls hl
  generalize va_A [(q_t, .inr (7, [.ref q_t_boxes, .ref q_t_next, .int t_done, .ref q_t_left, .ref q_t_pairs, .int t_many, .ref q_t_lengths, .ref q_t_riggings, .int t_told, .ref q_t_toldLength, .ref q_t_toldRigging, .ref q_t_toldRoom, .int t_ringN, .ref q_t_ring, .ref q_t_was, .ref q_t_saved, .ref q_t_isThere, .ref q_t_forms, .ref q_t_sizes, .ref q_t_items, .ref q_t_moved, .int t_finding])), (q_t_boxes, .inl (cZ, 240, .inl t_boxes)), (q_t_left, .inl (cZ, 240, .inl t_left)), (q_t_pairs, .inl (cI, 240, .inl t_pairs))] sz = A at hA hw ⊢
  have S : CallFix p m c cX7_row 5 s ([.ref q_t, .int p1] : List Value).toArray wsX7_row RX7 := S
  have hx := S.1
  have hb := S.2.1
  have hts := S.2.2.2.2
  have hl : lv_has ls 5 [(0, .ref q_t), (1, .int p1)] := hl
  have hinX7 : ∀ w ∈ u_ws RX7 TX7 22, w ∈ wsX7_row := by decide +kernel
  have k7 : Cond.fieldLink RX7 7 "BallBoxesModel" "boxes" "[Z" ∈ wsX7_row := by decide +kernel
  have k19 : Cond.fieldLink RX7 19 "BallBoxesModel" "pairs" "[I" ∈ wsX7_row := by decide +kernel
  have Lp7 : ∀ (x1 : Int32) (w_t_left : (Nat → Int32)) (w_t_pairs : (Nat → Int32)) (K : Int32 → Int32 → Option (Int32 × (Nat → Int32) × (Nat → Int32))), (∀ (z2 : Int32) (z3 : Int32) (H : Heap) (locs : List Loc) (ls : Array Slot), Wd D A s.heap [(q_t, .inr (7, [.ref q_t_boxes, .ref q_t_next, .int t_done, .ref q_t_left, .ref q_t_pairs, .int t_many, .ref q_t_lengths, .ref q_t_riggings, .int t_told, .ref q_t_toldLength, .ref q_t_toldRigging, .ref q_t_toldRoom, .int t_ringN, .ref q_t_ring, .ref q_t_was, .ref q_t_saved, .ref q_t_isThere, .ref q_t_forms, .ref q_t_sizes, .ref q_t_items, .ref q_t_moved, .int t_finding])), (q_t_boxes, .inl (cZ, 240, .inl t_boxes)), (q_t_left, .inl (cZ, 240, .inl w_t_left)), (q_t_pairs, .inl (cI, 240, .inl w_t_pairs))] H locs → lv_has ls 5 [(0, .ref q_t), (1, .int x1), (2, .int z2), (3, .int z3)] → K z2 z3 = some (r, o_t_left, o_t_pairs) → W p l e ({ frames := 2, cells := 0, slots := 0, locals := 47 } : Room) s m ([.ref q_t, .int p1] : List Value).toArray below meth c H locs 0 0 (MQ below (QcI D [(q_t, .inr (7, [.ref q_t_boxes, .ref q_t_next, .int t_done, .ref q_t_left, .ref q_t_pairs, .int t_many, .ref q_t_lengths, .ref q_t_riggings, .int t_told, .ref q_t_toldLength, .ref q_t_toldRigging, .ref q_t_toldRoom, .int t_ringN, .ref q_t_ring, .ref q_t_was, .ref q_t_saved, .ref q_t_isThere, .ref q_t_forms, .ref q_t_sizes, .ref q_t_items, .ref q_t_moved, .int t_finding])), (q_t_boxes, .inl (cZ, 240, .inl t_boxes)), (q_t_left, .inl (cZ, 240, .inl o_t_left)), (q_t_pairs, .inl (cI, 240, .inl o_t_pairs))] A r) ([.ref q_t, .int p1] : List Value).toArray s 0 0 A) (F0 m 60 ls [])) → ∀ (n : Nat) (x2 : Int32) (x3 : Int32) (x4 : Int32) (H : Heap) (locs : List Loc) (ls : Array Slot), Wd D A s.heap [(q_t, .inr (7, [.ref q_t_boxes, .ref q_t_next, .int t_done, .ref q_t_left, .ref q_t_pairs, .int t_many, .ref q_t_lengths, .ref q_t_riggings, .int t_told, .ref q_t_toldLength, .ref q_t_toldRigging, .ref q_t_toldRoom, .int t_ringN, .ref q_t_ring, .ref q_t_was, .ref q_t_saved, .ref q_t_isThere, .ref q_t_forms, .ref q_t_sizes, .ref q_t_items, .ref q_t_moved, .int t_finding])), (q_t_boxes, .inl (cZ, 240, .inl t_boxes)), (q_t_left, .inl (cZ, 240, .inl w_t_left)), (q_t_pairs, .inl (cI, 240, .inl w_t_pairs))] H locs → lv_has ls 5 [(0, .ref q_t), (1, .int x1), (2, .int x2), (3, .int x3), (4, .int x4)] → L_X7_row_7 N t_boxes K n x2 x3 x4 = some (r, o_t_left, o_t_pairs) → W p l e ({ frames := 2, cells := 0, slots := 0, locals := 47 } : Room) s m ([.ref q_t, .int p1] : List Value).toArray below meth c H locs 0 0 (MQ below (QcI D [(q_t, .inr (7, [.ref q_t_boxes, .ref q_t_next, .int t_done, .ref q_t_left, .ref q_t_pairs, .int t_many, .ref q_t_lengths, .ref q_t_riggings, .int t_told, .ref q_t_toldLength, .ref q_t_toldRigging, .ref q_t_toldRoom, .int t_ringN, .ref q_t_ring, .ref q_t_was, .ref q_t_saved, .ref q_t_isThere, .ref q_t_forms, .ref q_t_sizes, .ref q_t_items, .ref q_t_moved, .int t_finding])), (q_t_boxes, .inl (cZ, 240, .inl t_boxes)), (q_t_left, .inl (cZ, 240, .inl o_t_left)), (q_t_pairs, .inl (cI, 240, .inl o_t_pairs))] A r) ([.ref q_t, .int p1] : List Value).toArray s 0 0 A) (F0 m 7 ls []) := by
    intro x1 w_t_left w_t_pairs K hKx n
    induction n with
    | zero =>
      intro x2 x3 x4 H locs ls hw hl hf
      rw [L_X7_row_7] at hf
      cases hf
    | succ n ih =>
      intro x2 x3 x4 H locs ls hw hl hf
      rw [L_X7_row_7] at hf
      refine lv_iload hx hb dX7_row_7 (lv_at hl 4 rfl) ?_
      refine lv_sipush (v := (240 : Int32)) hx hb dX7_row_9 (by decide) ?_
      refine lv_icmp_ge (tgt := 60) hx hb dX7_row_12 (by decide) (fun c1 => ?_) (fun c1 => ?_)
      · have hf := (if_pos c1).symm.trans hf
        exact hKx x2 x3 _ _ _ hw (lv_sub hl [0, 1, 2, 3] rfl) hf
      · have hf := (if_neg c1).symm.trans hf
        refine lv_iload_n hx hb dX7_row_15 rfl (lv_at hl 2 rfl) ?_
        refine lv_iconst (v := (-1 : Int32)) hx hb dX7_row_16 (by decide) ?_
        refine lv_icmp_ne (tgt := 35) hx hb dX7_row_17 (by decide) (fun c2 => ?_) (fun c2 => ?_)
        · have hf := (if_neg c2).symm.trans hf
          refine lv_iload_n hx hb dX7_row_35 rfl (lv_at hl 2 rfl) ?_
          refine lv_istore_n (lv' := [(2, .int x2), (0, .ref q_t), (1, .int x1), (3, .int x3), (4, .int x4)]) hx hb dX7_row_36 rfl hl (by decide) rfl (fun ls hl => ?_)
          refine lv_aload_n hx hb dX7_row_37 rfl (lv_at hl 1 rfl) ?_
          refine g_get (ci := 7) (C := RX7) (T := TX7) (N := 22) S hinX7 hK hw 0 0 k7 dX7_row_38 rfl rfl (by decide) rfl ?_
          refine lv_iload hx hb dX7_row_41 (lv_at hl 4 rfl) ?_
          obtain ⟨b3, hf⟩ := ck_some hf
          refine g_zald S hK hw 1 1 b3 dX7_row_43 rfl rfl ?_
          refine lv_if_eq (tgt := 52) hx hb dX7_row_44 (by decide) (fun c4 => ?_) (fun c4 => ?_)
          · have hf := (if_pos c4).symm.trans hf
            refine lv_iload_n hx hb dX7_row_52 rfl (lv_at hl 3 rfl) ?_
            refine lv_istore_n (lv' := [(3, .int x3), (2, .int x2), (0, .ref q_t), (1, .int x1), (4, .int x4)]) hx hb dX7_row_53 rfl hl (by decide) rfl (fun ls hl => ?_)
            refine lv_iinc (v := (x4 + (1 : Int32))) (lv' := [(4, .int (x4 + (1 : Int32))), (3, .int x3), (2, .int x2), (0, .ref q_t), (1, .int x1)]) hx hb dX7_row_54 hl (k := 4) rfl rfl (by decide) rfl (fun ls hl => ?_)
            refine lv_goto (tgt := 7) hx hb dX7_row_57 (by decide) ?_
            exact ih x2 x3 (x4 + (1 : Int32)) _ _ _ hw (lv_sub hl [3, 4, 2, 1, 0] rfl) hf
          · have hf := (if_neg c4).symm.trans hf
            refine lv_iload hx hb dX7_row_47 (lv_at hl 4 rfl) ?_
            refine lv_goto (tgt := 53) hx hb dX7_row_49 (by decide) ?_
            refine lv_istore_n (lv' := [(3, .int x4), (2, .int x2), (0, .ref q_t), (1, .int x1), (4, .int x4)]) hx hb dX7_row_53 rfl hl (by decide) rfl (fun ls hl => ?_)
            refine lv_iinc (v := (x4 + (1 : Int32))) (lv' := [(4, .int (x4 + (1 : Int32))), (3, .int x4), (2, .int x2), (0, .ref q_t), (1, .int x1)]) hx hb dX7_row_54 hl (k := 4) rfl rfl (by decide) rfl (fun ls hl => ?_)
            refine lv_goto (tgt := 7) hx hb dX7_row_57 (by decide) ?_
            exact ih x2 x4 (x4 + (1 : Int32)) _ _ _ hw (lv_sub hl [3, 4, 2, 1, 0] rfl) hf
        · have hf := (if_pos c2).symm.trans hf
          refine lv_aload_n hx hb dX7_row_20 rfl (lv_at hl 0 rfl) ?_
          refine g_get (ci := 7) (C := RX7) (T := TX7) (N := 22) S hinX7 hK hw 0 0 k7 dX7_row_21 rfl rfl (by decide) rfl ?_
          refine lv_iload hx hb dX7_row_24 (lv_at hl 4 rfl) ?_
          obtain ⟨b5, hf⟩ := ck_some hf
          refine g_zald S hK hw 1 1 b5 dX7_row_26 rfl rfl ?_
          refine lv_if_eq (tgt := 35) hx hb dX7_row_27 (by decide) (fun c6 => ?_) (fun c6 => ?_)
          · have hf := (if_pos c6).symm.trans hf
            refine lv_iload_n hx hb dX7_row_35 rfl (lv_at hl 2 rfl) ?_
            refine lv_istore_n (lv' := [(2, .int x2), (0, .ref q_t), (1, .int x1), (3, .int x3), (4, .int x4)]) hx hb dX7_row_36 rfl hl (by decide) rfl (fun ls hl => ?_)
            refine lv_aload_n hx hb dX7_row_37 rfl (lv_at hl 1 rfl) ?_
            refine g_get (ci := 7) (C := RX7) (T := TX7) (N := 22) S hinX7 hK hw 0 0 k7 dX7_row_38 rfl rfl (by decide) rfl ?_
            refine lv_iload hx hb dX7_row_41 (lv_at hl 4 rfl) ?_
            obtain ⟨b7, hf⟩ := ck_some hf
            refine g_zald S hK hw 1 1 b7 dX7_row_43 rfl rfl ?_
            refine lv_if_eq (tgt := 52) hx hb dX7_row_44 (by decide) (fun c8 => ?_) (fun c8 => ?_)
            · have hf := (if_pos c8).symm.trans hf
              refine lv_iload_n hx hb dX7_row_52 rfl (lv_at hl 3 rfl) ?_
              refine lv_istore_n (lv' := [(3, .int x3), (2, .int x2), (0, .ref q_t), (1, .int x1), (4, .int x4)]) hx hb dX7_row_53 rfl hl (by decide) rfl (fun ls hl => ?_)
              refine lv_iinc (v := (x4 + (1 : Int32))) (lv' := [(4, .int (x4 + (1 : Int32))), (3, .int x3), (2, .int x2), (0, .ref q_t), (1, .int x1)]) hx hb dX7_row_54 hl (k := 4) rfl rfl (by decide) rfl (fun ls hl => ?_)
              refine lv_goto (tgt := 7) hx hb dX7_row_57 (by decide) ?_
              exact ih x2 x3 (x4 + (1 : Int32)) _ _ _ hw (lv_sub hl [3, 4, 2, 1, 0] rfl) hf
            · have hf := (if_neg c8).symm.trans hf
              refine lv_iload hx hb dX7_row_47 (lv_at hl 4 rfl) ?_
              refine lv_goto (tgt := 53) hx hb dX7_row_49 (by decide) ?_
              refine lv_istore_n (lv' := [(3, .int x4), (2, .int x2), (0, .ref q_t), (1, .int x1), (4, .int x4)]) hx hb dX7_row_53 rfl hl (by decide) rfl (fun ls hl => ?_)
              refine lv_iinc (v := (x4 + (1 : Int32))) (lv' := [(4, .int (x4 + (1 : Int32))), (3, .int x4), (2, .int x2), (0, .ref q_t), (1, .int x1)]) hx hb dX7_row_54 hl (k := 4) rfl rfl (by decide) rfl (fun ls hl => ?_)
              refine lv_goto (tgt := 7) hx hb dX7_row_57 (by decide) ?_
              exact ih x2 x4 (x4 + (1 : Int32)) _ _ _ hw (lv_sub hl [3, 4, 2, 1, 0] rfl) hf
          · have hf := (if_neg c6).symm.trans hf
            refine lv_iload hx hb dX7_row_30 (lv_at hl 4 rfl) ?_
            refine lv_goto (tgt := 36) hx hb dX7_row_32 (by decide) ?_
            refine lv_istore_n (lv' := [(2, .int x4), (0, .ref q_t), (1, .int x1), (3, .int x3), (4, .int x4)]) hx hb dX7_row_36 rfl hl (by decide) rfl (fun ls hl => ?_)
            refine lv_aload_n hx hb dX7_row_37 rfl (lv_at hl 1 rfl) ?_
            refine g_get (ci := 7) (C := RX7) (T := TX7) (N := 22) S hinX7 hK hw 0 0 k7 dX7_row_38 rfl rfl (by decide) rfl ?_
            refine lv_iload hx hb dX7_row_41 (lv_at hl 4 rfl) ?_
            obtain ⟨b9, hf⟩ := ck_some hf
            refine g_zald S hK hw 1 1 b9 dX7_row_43 rfl rfl ?_
            refine lv_if_eq (tgt := 52) hx hb dX7_row_44 (by decide) (fun c10 => ?_) (fun c10 => ?_)
            · have hf := (if_pos c10).symm.trans hf
              refine lv_iload_n hx hb dX7_row_52 rfl (lv_at hl 3 rfl) ?_
              refine lv_istore_n (lv' := [(3, .int x3), (2, .int x4), (0, .ref q_t), (1, .int x1), (4, .int x4)]) hx hb dX7_row_53 rfl hl (by decide) rfl (fun ls hl => ?_)
              refine lv_iinc (v := (x4 + (1 : Int32))) (lv' := [(4, .int (x4 + (1 : Int32))), (3, .int x3), (2, .int x4), (0, .ref q_t), (1, .int x1)]) hx hb dX7_row_54 hl (k := 4) rfl rfl (by decide) rfl (fun ls hl => ?_)
              refine lv_goto (tgt := 7) hx hb dX7_row_57 (by decide) ?_
              exact ih x4 x3 (x4 + (1 : Int32)) _ _ _ hw (lv_sub hl [3, 4, 2, 1, 0] rfl) hf
            · have hf := (if_neg c10).symm.trans hf
              refine lv_iload hx hb dX7_row_47 (lv_at hl 4 rfl) ?_
              refine lv_goto (tgt := 53) hx hb dX7_row_49 (by decide) ?_
              refine lv_istore_n (lv' := [(3, .int x4), (2, .int x4), (0, .ref q_t), (1, .int x1), (4, .int x4)]) hx hb dX7_row_53 rfl hl (by decide) rfl (fun ls hl => ?_)
              refine lv_iinc (v := (x4 + (1 : Int32))) (lv' := [(4, .int (x4 + (1 : Int32))), (3, .int x4), (2, .int x4), (0, .ref q_t), (1, .int x1)]) hx hb dX7_row_54 hl (k := 4) rfl rfl (by decide) rfl (fun ls hl => ?_)
              refine lv_goto (tgt := 7) hx hb dX7_row_57 (by decide) ?_
              exact ih x4 x4 (x4 + (1 : Int32)) _ _ _ hw (lv_sub hl [3, 4, 2, 1, 0] rfl) hf
  unfold f_X7_row at hf
  refine lv_iconst (v := (-1 : Int32)) hx hb dX7_row_0 (by decide) ?_
  refine lv_istore_n (lv' := [(2, .int (-1 : Int32)), (0, .ref q_t), (1, .int p1)]) hx hb dX7_row_1 rfl hl (by decide) rfl (fun ls hl => ?_)
  refine lv_iconst (v := (-1 : Int32)) hx hb dX7_row_2 (by decide) ?_
  refine lv_istore_n (lv' := [(3, .int (-1 : Int32)), (2, .int (-1 : Int32)), (0, .ref q_t), (1, .int p1)]) hx hb dX7_row_3 rfl hl (by decide) rfl (fun ls hl => ?_)
  refine lv_iconst (v := (0 : Int32)) hx hb dX7_row_4 (by decide) ?_
  refine lv_istore (lv' := [(4, .int (0 : Int32)), (3, .int (-1 : Int32)), (2, .int (-1 : Int32)), (0, .ref q_t), (1, .int p1)]) hx hb dX7_row_5 hl (by decide) rfl (fun ls hl => ?_)
  refine Lp7 p1 t_left t_pairs _ (fun y11 y12 H locs ls hw hl hf => ?_) N (-1 : Int32) (-1 : Int32) (0 : Int32) _ _ _ hw (lv_sub hl [3, 4, 2, 1, 0] rfl) hf
  refine lv_iload_n hx hb dX7_row_60 rfl (lv_at hl 1 rfl) ?_
  by_cases c13 : p1 = (0 : Int32)
  · have hf := (if_pos c13).symm.trans hf
    refine lv_tableIn (off := 31) (tgt := 92) hx hb dX7_row_61 (by rw [c13]; decide) (by rw [c13]; decide) (by rw [c13]; decide) (by decide) ?_
    refine lv_aload_n hx hb dX7_row_92 rfl (lv_at hl 0 rfl) ?_
    obtain ⟨r14, h15, hf⟩ := bd1_some hf
    refine cl_i (wr := [(q_t_left, .inl (cZ, 240, .inl t_left)), (q_t_pairs, .inl (cI, 240, .inl t_pairs))]) (ws' := [(q_t, .inr (7, [.ref q_t_boxes, .ref q_t_next, .int t_done, .ref q_t_left, .ref q_t_pairs, .int t_many, .ref q_t_lengths, .ref q_t_riggings, .int t_told, .ref q_t_toldLength, .ref q_t_toldRigging, .ref q_t_toldRoom, .int t_ringN, .ref q_t_ring, .ref q_t_was, .ref q_t_saved, .ref q_t_isThere, .ref q_t_forms, .ref q_t_sizes, .ref q_t_items, .ref q_t_moved, .int t_finding])), (q_t_boxes, .inl (cZ, 240, .inl t_boxes)), (q_t_left, .inl (cZ, 240, .inl t_left)), (q_t_pairs, .inl (cI, 240, .inl t_pairs))]) hA hw [0, 1] [2, 3] [2, 3, 0, 1] rfl rfl rfl (by decide) rfl rfl (va_runV (As := []) (rest := []) S (c_X7_balls l D cI cZ cJ cO _ q_t q_t_boxes q_t_next q_t_left q_t_pairs q_t_lengths q_t_riggings q_t_toldLength q_t_toldRigging q_t_toldRoom q_t_ring q_t_was q_t_saved q_t_isThere q_t_forms q_t_sizes q_t_items q_t_moved N t_done t_many t_told t_ringN t_finding t_boxes r14 h15) (cwV 0 hts gX7_row_X7_balls rfl rfl rfl (by decide +kernel) ⟨Nat.le_of_ble_eq_true rfl, Nat.le_of_ble_eq_true rfl⟩) (pre_V hK hN hw [0, 1] rfl rfl (C := RX7) (T := TX7) (N := 22) (ci := 7) (q0 := 0) rfl rfl) rfl rfl hl.1 rfl (lv_room (Nat.le_of_ble_eq_true rfl)) dX7_row_93 ⟨Nat.zero_le _, Nat.zero_le _⟩) (fun H locs hw => ?_)
    obtain ⟨rfl, rfl, rfl⟩ := pr3 (Option.some.inj hf)
    exact rt_i S hr hlk hw dX7_row_96
  have hf := (if_neg c13).symm.trans hf
  by_cases c16 : p1 = (1 : Int32)
  · have hf := (if_pos c16).symm.trans hf
    refine lv_tableIn (off := 36) (tgt := 97) hx hb dX7_row_61 (by rw [c16]; decide) (by rw [c16]; decide) (by rw [c16]; decide) (by decide) ?_
    refine lv_iload_n hx hb dX7_row_97 rfl (lv_at hl 2 rfl) ?_
    obtain ⟨rfl, rfl, rfl⟩ := pr3 (Option.some.inj hf)
    exact rt_i S hr hlk hw dX7_row_98
  have hf := (if_neg c16).symm.trans hf
  by_cases c17 : p1 = (2 : Int32)
  · have hf := (if_pos c17).symm.trans hf
    refine lv_tableIn (off := 38) (tgt := 99) hx hb dX7_row_61 (by rw [c17]; decide) (by rw [c17]; decide) (by rw [c17]; decide) (by decide) ?_
    refine lv_iload_n hx hb dX7_row_99 rfl (lv_at hl 3 rfl) ?_
    obtain ⟨rfl, rfl, rfl⟩ := pr3 (Option.some.inj hf)
    exact rt_i S hr hlk hw dX7_row_100
  have hf := (if_neg c17).symm.trans hf
  by_cases c18 : p1 = (3 : Int32)
  · have hf := (if_pos c18).symm.trans hf
    refine lv_tableIn (off := 40) (tgt := 101) hx hb dX7_row_61 (by rw [c18]; decide) (by rw [c18]; decide) (by rw [c18]; decide) (by decide) ?_
    refine lv_aload_n hx hb dX7_row_101 rfl (lv_at hl 0 rfl) ?_
    obtain ⟨r19, u20, u21, h22, hf⟩ := bd3_some hf
    refine cl_i (wr := []) (ws' := [(q_t, .inr (7, [.ref q_t_boxes, .ref q_t_next, .int t_done, .ref q_t_left, .ref q_t_pairs, .int t_many, .ref q_t_lengths, .ref q_t_riggings, .int t_told, .ref q_t_toldLength, .ref q_t_toldRigging, .ref q_t_toldRoom, .int t_ringN, .ref q_t_ring, .ref q_t_was, .ref q_t_saved, .ref q_t_isThere, .ref q_t_forms, .ref q_t_sizes, .ref q_t_items, .ref q_t_moved, .int t_finding])), (q_t_boxes, .inl (cZ, 240, .inl t_boxes)), (q_t_left, .inl (cZ, 240, .inl u20)), (q_t_pairs, .inl (cI, 240, .inl u21))]) hA hw [0, 1, 2, 3] [] [0, 1, 2, 3] rfl rfl rfl (by decide) rfl rfl (va_runV (As := []) (rest := []) S (c_X7_pairRounds l D cI cZ cJ cO _ q_t q_t_boxes q_t_next q_t_left q_t_pairs q_t_lengths q_t_riggings q_t_toldLength q_t_toldRigging q_t_toldRoom q_t_ring q_t_was q_t_saved q_t_isThere q_t_forms q_t_sizes q_t_items q_t_moved N t_done t_many t_told t_ringN t_finding t_boxes t_left t_pairs r19 u20 u21 h22) (cwV 0 hts gX7_row_X7_pairRounds rfl rfl rfl (by decide +kernel) ⟨Nat.le_of_ble_eq_true rfl, Nat.le_of_ble_eq_true rfl⟩) (pre_V hK hN hw [0, 1, 2, 3] rfl rfl (C := RX7) (T := TX7) (N := 22) (ci := 7) (q0 := 0) rfl rfl) rfl rfl hl.1 rfl (lv_room (Nat.le_of_ble_eq_true rfl)) dX7_row_102 ⟨Nat.zero_le _, Nat.zero_le _⟩) (fun H locs hw => ?_)
    refine lv_if_ne (tgt := 112) hx hb dX7_row_105 (by decide) (fun c23 => ?_) (fun c23 => ?_)
    · have hf := (if_neg c23).symm.trans hf
      refine lv_aload_n hx hb dX7_row_112 rfl (lv_at hl 0 rfl) ?_
      refine g_get (ci := 7) (C := RX7) (T := TX7) (N := 22) S hinX7 hK hw 0 4 k19 dX7_row_113 rfl rfl (by decide) rfl ?_
      refine lv_iconst (v := (0 : Int32)) hx hb dX7_row_116 (by decide) ?_
      obtain ⟨b24, hf⟩ := ck_some hf
      refine g_iald S hK hw 3 0 b24 dX7_row_117 rfl rfl ?_
      obtain ⟨rfl, rfl, rfl⟩ := pr3 (Option.some.inj hf)
      exact rt_i S hr hlk hw dX7_row_118
    · have hf := (if_pos c23).symm.trans hf
      refine lv_iconst (v := (0 : Int32)) hx hb dX7_row_108 (by decide) ?_
      refine lv_goto (tgt := 118) hx hb dX7_row_109 (by decide) ?_
      obtain ⟨rfl, rfl, rfl⟩ := pr3 (Option.some.inj hf)
      exact rt_i S hr hlk hw dX7_row_118
  have hf := (if_neg c18).symm.trans hf
  refine lv_tableOut (tgt := 119) hx hb dX7_row_61 (by have e0 := sw_ne c13 (z := 0) (by decide); have e1 := sw_ne c16 (z := 1) (by decide); have e2 := sw_ne c17 (z := 2) (by decide); have e3 := sw_ne c18 (z := 3) (by decide); omega) (by decide) ?_
  refine lv_bipush (v := (-2 : Int32)) hx hb dX7_row_119 (by decide) ?_
  obtain ⟨rfl, rfl, rfl⟩ := pr3 (Option.some.inj hf)
  exact rt_i S hr hlk hw dX7_row_121

def L_X7_heap_33 (N : Nat) (x1 : Int32) (x2 : Int32) (w_t_pairs : (Nat → Int32)) (K : Int32 → Option (Int32 × (Nat → Int32) × (Nat → Int32))) : Nat → Int32 → Int32 → Option (Int32 × (Nat → Int32) × (Nat → Int32))
  | 0, _, _ => none
  | n + 1, x3, x4 => (if x2 ≤ x4 then (K x3) else (ck (inb x4 240) (if (w_t_pairs x4.toNatClampNeg) ≤ x1 then (L_X7_heap_33 N x1 x2 w_t_pairs K n (x3 + (0 : Int32)) (x4 + (1 : Int32))) else (L_X7_heap_33 N x1 x2 w_t_pairs K n (x3 + (1 : Int32)) (x4 + (1 : Int32))))))

def f_X7_heap (N : Nat) (p1 : Int32) (t_boxes : (Nat → Int32)) (t_left : (Nat → Int32)) (t_pairs : (Nat → Int32)) : Option (Int32 × (Nat → Int32) × (Nat → Int32)) :=
  (bd3 (f_X7_pairRounds N t_boxes t_left t_pairs) (fun r1 u2 u3 => (if r1 = (0 : Int32) then (some ((-2 : Int32), u2, u3)) else (ck (inb (0 : Int32) 240) (bd1 (f_X7_in N p1 (0 : Int32) ((u3 (0 : Int32).toNatClampNeg) - (1 : Int32))) (fun r7 => (if r7 = (0 : Int32) then (some ((-2 : Int32), u2, u3)) else (L_X7_heap_33 N p1 r1 u3 (fun y13 => (some (y13, u2, u3))) N (0 : Int32) (0 : Int32)))))))))

set_option maxHeartbeats 4000000 in
set_option maxRecDepth 100000 in
theorem c_X7_heap (l : Launch) (D : va_G) (cI cZ cJ cO : ClassId) (sz : Nat) (q_t q_t_boxes q_t_next q_t_left q_t_pairs q_t_lengths q_t_riggings q_t_toldLength q_t_toldRigging q_t_toldRoom q_t_ring q_t_was q_t_saved q_t_isThere q_t_forms q_t_sizes q_t_items q_t_moved : Nat) (N : Nat) (p1 : Int32) (t_done : Int32) (t_many : Int32) (t_told : Int32) (t_ringN : Int32) (t_finding : Int32) (t_boxes : (Nat → Int32)) (t_left : (Nat → Int32)) (t_pairs : (Nat → Int32)) (r : Int32) (o_t_left : (Nat → Int32)) (o_t_pairs : (Nat → Int32)) (hf : f_X7_heap N p1 t_boxes t_left t_pairs = some (r, o_t_left, o_t_pairs)) : Met l yX7_heap wsX7_heap ({ frames := 2, cells := 0, slots := 0, locals := 47 }) (PreC D (TY cI cZ cJ cO) [.ref q_t, .int p1] [(q_t, .inr (7, [.ref q_t_boxes, .ref q_t_next, .int t_done, .ref q_t_left, .ref q_t_pairs, .int t_many, .ref q_t_lengths, .ref q_t_riggings, .int t_told, .ref q_t_toldLength, .ref q_t_toldRigging, .ref q_t_toldRoom, .int t_ringN, .ref q_t_ring, .ref q_t_was, .ref q_t_saved, .ref q_t_isThere, .ref q_t_forms, .ref q_t_sizes, .ref q_t_items, .ref q_t_moved, .int t_finding])), (q_t_boxes, .inl (cZ, 240, .inl t_boxes)), (q_t_left, .inl (cZ, 240, .inl t_left)), (q_t_pairs, .inl (cI, 240, .inl t_pairs))] sz) (QcI D [(q_t, .inr (7, [.ref q_t_boxes, .ref q_t_next, .int t_done, .ref q_t_left, .ref q_t_pairs, .int t_many, .ref q_t_lengths, .ref q_t_riggings, .int t_told, .ref q_t_toldLength, .ref q_t_toldRigging, .ref q_t_toldRoom, .int t_ringN, .ref q_t_ring, .ref q_t_was, .ref q_t_saved, .ref q_t_isThere, .ref q_t_forms, .ref q_t_sizes, .ref q_t_items, .ref q_t_moved, .int t_finding])), (q_t_boxes, .inl (cZ, 240, .inl t_boxes)), (q_t_left, .inl (cZ, 240, .inl o_t_left)), (q_t_pairs, .inl (cI, 240, .inl o_t_pairs))] (va_A [(q_t, .inr (7, [.ref q_t_boxes, .ref q_t_next, .int t_done, .ref q_t_left, .ref q_t_pairs, .int t_many, .ref q_t_lengths, .ref q_t_riggings, .int t_told, .ref q_t_toldLength, .ref q_t_toldRigging, .ref q_t_toldRoom, .int t_ringN, .ref q_t_ring, .ref q_t_was, .ref q_t_saved, .ref q_t_isThere, .ref q_t_forms, .ref q_t_sizes, .ref q_t_items, .ref q_t_moved, .int t_finding])), (q_t_boxes, .inl (cZ, 240, .inl t_boxes)), (q_t_left, .inl (cZ, 240, .inl t_left)), (q_t_pairs, .inl (cI, 240, .inl t_pairs))] sz) r) 0 0 (va_A [(q_t, .inr (7, [.ref q_t_boxes, .ref q_t_next, .int t_done, .ref q_t_left, .ref q_t_pairs, .int t_many, .ref q_t_lengths, .ref q_t_riggings, .int t_told, .ref q_t_toldLength, .ref q_t_toldRigging, .ref q_t_toldRoom, .int t_ringN, .ref q_t_ring, .ref q_t_was, .ref q_t_saved, .ref q_t_isThere, .ref q_t_forms, .ref q_t_sizes, .ref q_t_items, .ref q_t_moved, .int t_finding])), (q_t_boxes, .inl (cZ, 240, .inl t_boxes)), (q_t_left, .inl (cZ, 240, .inl t_left)), (q_t_pairs, .inl (cI, 240, .inl t_pairs))] sz) := by
  refine ctr (cc := cX7_heap) (maxL := 5) (ret := (some .int)) (by decide) rfl (Nat.le_of_ble_eq_true rfl) ?_
  intro p e s m below meth c S hr hlk hnm hK hN hsz hA hw ls hl
  generalize va_A [(q_t, .inr (7, [.ref q_t_boxes, .ref q_t_next, .int t_done, .ref q_t_left, .ref q_t_pairs, .int t_many, .ref q_t_lengths, .ref q_t_riggings, .int t_told, .ref q_t_toldLength, .ref q_t_toldRigging, .ref q_t_toldRoom, .int t_ringN, .ref q_t_ring, .ref q_t_was, .ref q_t_saved, .ref q_t_isThere, .ref q_t_forms, .ref q_t_sizes, .ref q_t_items, .ref q_t_moved, .int t_finding])), (q_t_boxes, .inl (cZ, 240, .inl t_boxes)), (q_t_left, .inl (cZ, 240, .inl t_left)), (q_t_pairs, .inl (cI, 240, .inl t_pairs))] sz = A at hA hw ⊢
  have S : CallFix p m c cX7_heap 5 s ([.ref q_t, .int p1] : List Value).toArray wsX7_heap RX7 := S
  have hx := S.1
  have hb := S.2.1
  have hts := S.2.2.2.2
  have hl : lv_has ls 5 [(0, .ref q_t), (1, .int p1)] := hl
  have hinX7 : ∀ w ∈ u_ws RX7 TX7 22, w ∈ wsX7_heap := by decide +kernel
  have k19 : Cond.fieldLink RX7 19 "BallBoxesModel" "pairs" "[I" ∈ wsX7_heap := by decide +kernel
  have Lp33 : ∀ (x1 : Int32) (x2 : Int32) (w_t_left : (Nat → Int32)) (w_t_pairs : (Nat → Int32)) (K : Int32 → Option (Int32 × (Nat → Int32) × (Nat → Int32))), (∀ (z3 : Int32) (H : Heap) (locs : List Loc) (ls : Array Slot), Wd D A s.heap [(q_t, .inr (7, [.ref q_t_boxes, .ref q_t_next, .int t_done, .ref q_t_left, .ref q_t_pairs, .int t_many, .ref q_t_lengths, .ref q_t_riggings, .int t_told, .ref q_t_toldLength, .ref q_t_toldRigging, .ref q_t_toldRoom, .int t_ringN, .ref q_t_ring, .ref q_t_was, .ref q_t_saved, .ref q_t_isThere, .ref q_t_forms, .ref q_t_sizes, .ref q_t_items, .ref q_t_moved, .int t_finding])), (q_t_boxes, .inl (cZ, 240, .inl t_boxes)), (q_t_left, .inl (cZ, 240, .inl w_t_left)), (q_t_pairs, .inl (cI, 240, .inl w_t_pairs))] H locs → lv_has ls 5 [(3, .int z3)] → K z3 = some (r, o_t_left, o_t_pairs) → W p l e ({ frames := 2, cells := 0, slots := 0, locals := 47 } : Room) s m ([.ref q_t, .int p1] : List Value).toArray below meth c H locs 0 0 (MQ below (QcI D [(q_t, .inr (7, [.ref q_t_boxes, .ref q_t_next, .int t_done, .ref q_t_left, .ref q_t_pairs, .int t_many, .ref q_t_lengths, .ref q_t_riggings, .int t_told, .ref q_t_toldLength, .ref q_t_toldRigging, .ref q_t_toldRoom, .int t_ringN, .ref q_t_ring, .ref q_t_was, .ref q_t_saved, .ref q_t_isThere, .ref q_t_forms, .ref q_t_sizes, .ref q_t_items, .ref q_t_moved, .int t_finding])), (q_t_boxes, .inl (cZ, 240, .inl t_boxes)), (q_t_left, .inl (cZ, 240, .inl o_t_left)), (q_t_pairs, .inl (cI, 240, .inl o_t_pairs))] A r) ([.ref q_t, .int p1] : List Value).toArray s 0 0 A) (F0 m 64 ls [])) → ∀ (n : Nat) (x3 : Int32) (x4 : Int32) (H : Heap) (locs : List Loc) (ls : Array Slot), Wd D A s.heap [(q_t, .inr (7, [.ref q_t_boxes, .ref q_t_next, .int t_done, .ref q_t_left, .ref q_t_pairs, .int t_many, .ref q_t_lengths, .ref q_t_riggings, .int t_told, .ref q_t_toldLength, .ref q_t_toldRigging, .ref q_t_toldRoom, .int t_ringN, .ref q_t_ring, .ref q_t_was, .ref q_t_saved, .ref q_t_isThere, .ref q_t_forms, .ref q_t_sizes, .ref q_t_items, .ref q_t_moved, .int t_finding])), (q_t_boxes, .inl (cZ, 240, .inl t_boxes)), (q_t_left, .inl (cZ, 240, .inl w_t_left)), (q_t_pairs, .inl (cI, 240, .inl w_t_pairs))] H locs → lv_has ls 5 [(0, .ref q_t), (1, .int x1), (2, .int x2), (3, .int x3), (4, .int x4)] → L_X7_heap_33 N x1 x2 w_t_pairs K n x3 x4 = some (r, o_t_left, o_t_pairs) → W p l e ({ frames := 2, cells := 0, slots := 0, locals := 47 } : Room) s m ([.ref q_t, .int p1] : List Value).toArray below meth c H locs 0 0 (MQ below (QcI D [(q_t, .inr (7, [.ref q_t_boxes, .ref q_t_next, .int t_done, .ref q_t_left, .ref q_t_pairs, .int t_many, .ref q_t_lengths, .ref q_t_riggings, .int t_told, .ref q_t_toldLength, .ref q_t_toldRigging, .ref q_t_toldRoom, .int t_ringN, .ref q_t_ring, .ref q_t_was, .ref q_t_saved, .ref q_t_isThere, .ref q_t_forms, .ref q_t_sizes, .ref q_t_items, .ref q_t_moved, .int t_finding])), (q_t_boxes, .inl (cZ, 240, .inl t_boxes)), (q_t_left, .inl (cZ, 240, .inl o_t_left)), (q_t_pairs, .inl (cI, 240, .inl o_t_pairs))] A r) ([.ref q_t, .int p1] : List Value).toArray s 0 0 A) (F0 m 33 ls []) := by
    intro x1 x2 w_t_left w_t_pairs K hKx n
    induction n with
    | zero =>
      intro x3 x4 H locs ls hw hl hf
      rw [L_X7_heap_33] at hf
      cases hf
    | succ n ih =>
      intro x3 x4 H locs ls hw hl hf
      rw [L_X7_heap_33] at hf
      refine lv_iload hx hb dX7_heap_33 (lv_at hl 4 rfl) ?_
      refine lv_iload_n hx hb dX7_heap_35 rfl (lv_at hl 2 rfl) ?_
      refine lv_icmp_ge (tgt := 64) hx hb dX7_heap_36 (by decide) (fun c10 => ?_) (fun c10 => ?_)
      · have hf := (if_pos c10).symm.trans hf
        exact hKx x3 _ _ _ hw (lv_sub hl [3] rfl) hf
      · have hf := (if_neg c10).symm.trans hf
        refine lv_iload_n hx hb dX7_heap_39 rfl (lv_at hl 3 rfl) ?_
        refine lv_aload_n hx hb dX7_heap_40 rfl (lv_at hl 0 rfl) ?_
        refine g_get (ci := 7) (C := RX7) (T := TX7) (N := 22) S hinX7 hK hw 0 4 k19 dX7_heap_41 rfl rfl (by decide) rfl ?_
        refine lv_iload hx hb dX7_heap_44 (lv_at hl 4 rfl) ?_
        obtain ⟨b11, hf⟩ := ck_some hf
        refine g_iald S hK hw 3 0 b11 dX7_heap_46 rfl rfl ?_
        refine lv_iload_n hx hb dX7_heap_47 rfl (lv_at hl 1 rfl) ?_
        refine lv_icmp_le (tgt := 55) hx hb dX7_heap_48 (by decide) (fun c12 => ?_) (fun c12 => ?_)
        · have hf := (if_pos c12).symm.trans hf
          refine lv_iconst (v := (0 : Int32)) hx hb dX7_heap_55 (by decide) ?_
          refine lv_iadd hx hb dX7_heap_56 ?_
          refine lv_istore_n (lv' := [(3, .int (x3 + (0 : Int32))), (0, .ref q_t), (1, .int x1), (2, .int x2), (4, .int x4)]) hx hb dX7_heap_57 rfl hl (by decide) rfl (fun ls hl => ?_)
          refine lv_iinc (v := (x4 + (1 : Int32))) (lv' := [(4, .int (x4 + (1 : Int32))), (3, .int (x3 + (0 : Int32))), (0, .ref q_t), (1, .int x1), (2, .int x2)]) hx hb dX7_heap_58 hl (k := 4) rfl rfl (by decide) rfl (fun ls hl => ?_)
          refine lv_goto (tgt := 33) hx hb dX7_heap_61 (by decide) ?_
          exact ih (x3 + (0 : Int32)) (x4 + (1 : Int32)) _ _ _ hw (lv_sub hl [2, 3, 4, 1, 0] rfl) hf
        · have hf := (if_neg c12).symm.trans hf
          refine lv_iconst (v := (1 : Int32)) hx hb dX7_heap_51 (by decide) ?_
          refine lv_goto (tgt := 56) hx hb dX7_heap_52 (by decide) ?_
          refine lv_iadd hx hb dX7_heap_56 ?_
          refine lv_istore_n (lv' := [(3, .int (x3 + (1 : Int32))), (0, .ref q_t), (1, .int x1), (2, .int x2), (4, .int x4)]) hx hb dX7_heap_57 rfl hl (by decide) rfl (fun ls hl => ?_)
          refine lv_iinc (v := (x4 + (1 : Int32))) (lv' := [(4, .int (x4 + (1 : Int32))), (3, .int (x3 + (1 : Int32))), (0, .ref q_t), (1, .int x1), (2, .int x2)]) hx hb dX7_heap_58 hl (k := 4) rfl rfl (by decide) rfl (fun ls hl => ?_)
          refine lv_goto (tgt := 33) hx hb dX7_heap_61 (by decide) ?_
          exact ih (x3 + (1 : Int32)) (x4 + (1 : Int32)) _ _ _ hw (lv_sub hl [2, 3, 4, 1, 0] rfl) hf
  unfold f_X7_heap at hf
  refine lv_aload_n hx hb dX7_heap_0 rfl (lv_at hl 0 rfl) ?_
  obtain ⟨r1, u2, u3, h4, hf⟩ := bd3_some hf
  refine cl_i (wr := []) (ws' := [(q_t, .inr (7, [.ref q_t_boxes, .ref q_t_next, .int t_done, .ref q_t_left, .ref q_t_pairs, .int t_many, .ref q_t_lengths, .ref q_t_riggings, .int t_told, .ref q_t_toldLength, .ref q_t_toldRigging, .ref q_t_toldRoom, .int t_ringN, .ref q_t_ring, .ref q_t_was, .ref q_t_saved, .ref q_t_isThere, .ref q_t_forms, .ref q_t_sizes, .ref q_t_items, .ref q_t_moved, .int t_finding])), (q_t_boxes, .inl (cZ, 240, .inl t_boxes)), (q_t_left, .inl (cZ, 240, .inl u2)), (q_t_pairs, .inl (cI, 240, .inl u3))]) hA hw [0, 1, 2, 3] [] [0, 1, 2, 3] rfl rfl rfl (by decide) rfl rfl (va_runV (As := []) (rest := []) S (c_X7_pairRounds l D cI cZ cJ cO _ q_t q_t_boxes q_t_next q_t_left q_t_pairs q_t_lengths q_t_riggings q_t_toldLength q_t_toldRigging q_t_toldRoom q_t_ring q_t_was q_t_saved q_t_isThere q_t_forms q_t_sizes q_t_items q_t_moved N t_done t_many t_told t_ringN t_finding t_boxes t_left t_pairs r1 u2 u3 h4) (cwV 0 hts gX7_heap_X7_pairRounds rfl rfl rfl (by decide +kernel) ⟨Nat.le_of_ble_eq_true rfl, Nat.le_of_ble_eq_true rfl⟩) (pre_V hK hN hw [0, 1, 2, 3] rfl rfl (C := RX7) (T := TX7) (N := 22) (ci := 7) (q0 := 0) rfl rfl) rfl rfl hl.1 rfl (lv_room (Nat.le_of_ble_eq_true rfl)) dX7_heap_1 ⟨Nat.zero_le _, Nat.zero_le _⟩) (fun H locs hw => ?_)
  refine lv_istore_n (lv' := [(2, .int r1), (0, .ref q_t), (1, .int p1)]) hx hb dX7_heap_4 rfl hl (by decide) rfl (fun ls hl => ?_)
  refine lv_iload_n hx hb dX7_heap_5 rfl (lv_at hl 0 rfl) ?_
  refine lv_if_eq (tgt := 25) hx hb dX7_heap_6 (by decide) (fun c5 => ?_) (fun c5 => ?_)
  · have hf := (if_pos c5).symm.trans hf
    refine lv_bipush (v := (-2 : Int32)) hx hb dX7_heap_25 (by decide) ?_
    obtain ⟨rfl, rfl, rfl⟩ := pr3 (Option.some.inj hf)
    exact rt_i S hr hlk hw dX7_heap_27
  · have hf := (if_neg c5).symm.trans hf
    refine lv_iload_n hx hb dX7_heap_9 rfl (lv_at hl 2 rfl) ?_
    refine lv_iconst (v := (0 : Int32)) hx hb dX7_heap_10 (by decide) ?_
    refine lv_aload_n hx hb dX7_heap_11 rfl (lv_at hl 1 rfl) ?_
    refine g_get (ci := 7) (C := RX7) (T := TX7) (N := 22) S hinX7 hK hw 0 4 k19 dX7_heap_12 rfl rfl (by decide) rfl ?_
    refine lv_iconst (v := (0 : Int32)) hx hb dX7_heap_15 (by decide) ?_
    obtain ⟨b6, hf⟩ := ck_some hf
    refine g_iald S hK hw 3 0 b6 dX7_heap_16 rfl rfl ?_
    refine lv_iconst (v := (1 : Int32)) hx hb dX7_heap_17 (by decide) ?_
    refine lv_isub hx hb dX7_heap_18 ?_
    obtain ⟨r7, h8, hf⟩ := bd1_some hf
    refine cl_i (wr := [(q_t, .inr (7, [.ref q_t_boxes, .ref q_t_next, .int t_done, .ref q_t_left, .ref q_t_pairs, .int t_many, .ref q_t_lengths, .ref q_t_riggings, .int t_told, .ref q_t_toldLength, .ref q_t_toldRigging, .ref q_t_toldRoom, .int t_ringN, .ref q_t_ring, .ref q_t_was, .ref q_t_saved, .ref q_t_isThere, .ref q_t_forms, .ref q_t_sizes, .ref q_t_items, .ref q_t_moved, .int t_finding])), (q_t_boxes, .inl (cZ, 240, .inl t_boxes)), (q_t_left, .inl (cZ, 240, .inl u2)), (q_t_pairs, .inl (cI, 240, .inl u3))]) (ws' := [(q_t, .inr (7, [.ref q_t_boxes, .ref q_t_next, .int t_done, .ref q_t_left, .ref q_t_pairs, .int t_many, .ref q_t_lengths, .ref q_t_riggings, .int t_told, .ref q_t_toldLength, .ref q_t_toldRigging, .ref q_t_toldRoom, .int t_ringN, .ref q_t_ring, .ref q_t_was, .ref q_t_saved, .ref q_t_isThere, .ref q_t_forms, .ref q_t_sizes, .ref q_t_items, .ref q_t_moved, .int t_finding])), (q_t_boxes, .inl (cZ, 240, .inl t_boxes)), (q_t_left, .inl (cZ, 240, .inl u2)), (q_t_pairs, .inl (cI, 240, .inl u3))]) hA hw [] [0, 1, 2, 3] [0, 1, 2, 3] rfl rfl rfl (by decide) rfl rfl (va_runS (As := [.int p1, .int (0 : Int32), .int ((u3 (0 : Int32).toNatClampNeg) - (1 : Int32))]) (rest := []) S (c_X7_in l D cI cZ cJ cO _ N p1 (0 : Int32) ((u3 (0 : Int32).toNatClampNeg) - (1 : Int32)) r7 h8) (va_cwS 3 hts gX7_heap_X7_in rfl rfl rfl (by decide +kernel) ⟨Nat.le_of_ble_eq_true rfl, Nat.le_of_ble_eq_true rfl⟩) (pre_S hK hN hw [] rfl rfl) rfl rfl hl.1 rfl (lv_room (Nat.le_of_ble_eq_true rfl)) dX7_heap_19 ⟨Nat.zero_le _, Nat.zero_le _⟩) (fun H locs hw => ?_)
    refine lv_if_ne (tgt := 28) hx hb dX7_heap_22 (by decide) (fun c9 => ?_) (fun c9 => ?_)
    · have hf := (if_neg c9).symm.trans hf
      refine lv_iconst (v := (0 : Int32)) hx hb dX7_heap_28 (by decide) ?_
      refine lv_istore_n (lv' := [(3, .int (0 : Int32)), (2, .int r1), (0, .ref q_t), (1, .int p1)]) hx hb dX7_heap_29 rfl hl (by decide) rfl (fun ls hl => ?_)
      refine lv_iconst (v := (0 : Int32)) hx hb dX7_heap_30 (by decide) ?_
      refine lv_istore (lv' := [(4, .int (0 : Int32)), (3, .int (0 : Int32)), (2, .int r1), (0, .ref q_t), (1, .int p1)]) hx hb dX7_heap_31 hl (by decide) rfl (fun ls hl => ?_)
      refine Lp33 p1 r1 u2 u3 _ (fun y13 H locs ls hw hl hf => ?_) N (0 : Int32) (0 : Int32) _ _ _ hw (lv_sub hl [3, 4, 2, 1, 0] rfl) hf
      refine lv_iload_n hx hb dX7_heap_64 rfl (lv_at hl 0 rfl) ?_
      obtain ⟨rfl, rfl, rfl⟩ := pr3 (Option.some.inj hf)
      exact rt_i S hr hlk hw dX7_heap_65
    · have hf := (if_pos c9).symm.trans hf
      refine lv_bipush (v := (-2 : Int32)) hx hb dX7_heap_25 (by decide) ?_
      obtain ⟨rfl, rfl, rfl⟩ := pr3 (Option.some.inj hf)
      exact rt_i S hr hlk hw dX7_heap_27
