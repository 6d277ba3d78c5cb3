def f_X6_rings (N : Nat) (p1 : Int32) (p2 : Int32) (p3 : Int32) (p4 : Int32) (t_trial_ring_size : Int32) (t_trial_ring_bits : Int64) (t_trial_ring_made : Int64) (t_trial_ring_carrierHas : Int32) (t_trial_seen : (Nat → Int64)) : Option (Int32 × Int32 × Int64 × Int64 × Int32 × (Nat → Int64)) :=
  (if p1 < (1 : Int32) then (some ((-2 : Int32), t_trial_ring_size, t_trial_ring_bits, t_trial_ring_made, t_trial_ring_carrierHas, t_trial_seen)) else (if (12 : Int32) < p1 then (some ((-2 : Int32), t_trial_ring_size, t_trial_ring_bits, t_trial_ring_made, t_trial_ring_carrierHas, t_trial_seen)) else (if p2 < (0 : Int32) then (some ((-2 : Int32), t_trial_ring_size, t_trial_ring_bits, t_trial_ring_made, t_trial_ring_carrierHas, t_trial_seen)) else (if p1 < p2 then (some ((-2 : Int32), t_trial_ring_size, t_trial_ring_bits, t_trial_ring_made, t_trial_ring_carrierHas, t_trial_seen)) else (bd1 (f_X6_isFewerThanHalf N p2 p1) (fun r5 => (if r5 = (0 : Int32) then (some ((-2 : Int32), t_trial_ring_size, t_trial_ring_bits, t_trial_ring_made, t_trial_ring_carrierHas, t_trial_seen)) else (bd1 (f_X6_isRoom N p3) (fun r8 => (if r8 = (0 : Int32) then (some ((-2 : Int32), t_trial_ring_size, t_trial_ring_bits, t_trial_ring_made, t_trial_ring_carrierHas, t_trial_seen)) else (if (0 : Int32) ≤ p4 then (if p4 = (0 : Int32) then (bd1 (f_X2_countAll N p1 p2) (fun r20 => (some (r20, t_trial_ring_size, t_trial_ring_bits, t_trial_ring_made, t_trial_ring_carrierHas, t_trial_seen)))) else (bd6 (f_X2_countWithPeriod N p1 p2 p3 p4 t_trial_ring_size t_trial_ring_bits t_trial_ring_made t_trial_ring_carrierHas t_trial_seen) (fun r13 u14 u15 u16 u17 u18 => (some (r13, u14, u15, u16, u17, u18))))) else (some ((-2 : Int32), t_trial_ring_size, t_trial_ring_bits, t_trial_ring_made, t_trial_ring_carrierHas, t_trial_seen)))))))))))))

set_option maxHeartbeats 4000000 in
set_option maxRecDepth 100000 in
theorem c_X6_rings (l : Launch) (D : va_G) (cI cZ cJ cO : ClassId) (sz : Nat) (q_t q_t_theRow q_t_pairs q_t_latestStrings q_t_leapStrings q_t_theRing q_t_trial q_t_sheets q_t_trial_ring q_t_trial_seen : Nat) (N : Nat) (p1 : Int32) (p2 : Int32) (p3 : Int32) (p4 : Int32) (t_moves : Int32) (t_latestFinding : Int32) (t_trial_ring_size : Int32) (t_trial_ring_bits : Int64) (t_trial_ring_made : Int64) (t_trial_ring_carrierHas : Int32) (t_trial_seen : (Nat → Int64)) (r : Int32) (o_t_trial_ring_size : Int32) (o_t_trial_ring_bits : Int64) (o_t_trial_ring_made : Int64) (o_t_trial_ring_carrierHas : Int32) (o_t_trial_seen : (Nat → Int64)) (hf : f_X6_rings N p1 p2 p3 p4 t_trial_ring_size t_trial_ring_bits t_trial_ring_made t_trial_ring_carrierHas t_trial_seen = some (r, o_t_trial_ring_size, o_t_trial_ring_bits, o_t_trial_ring_made, o_t_trial_ring_carrierHas, o_t_trial_seen)) : Met l yX6_rings wsX6_rings ({ frames := 5, cells := 0, slots := 0, locals := 123 }) (PreC D (TY cI cZ cJ cO) [.ref q_t, .int p1, .int p2, .int p3, .int p4] [(q_t, .inr (6, [.ref q_t_theRow, .ref q_t_pairs, .ref q_t_latestStrings, .ref q_t_leapStrings, .ref q_t_theRing, .ref q_t_trial, .ref q_t_sheets, .int t_moves, .int t_latestFinding])), (q_t_trial, .inr (2, [.ref q_t_trial_ring, .ref q_t_trial_seen])), (q_t_trial_ring, .inr (1, [.int t_trial_ring_size, .long t_trial_ring_bits, .long t_trial_ring_made, .int t_trial_ring_carrierHas])), (q_t_trial_seen, .inl (cJ, 64, .inr (.inl t_trial_seen)))] sz) (QcI D [(q_t, .inr (6, [.ref q_t_theRow, .ref q_t_pairs, .ref q_t_latestStrings, .ref q_t_leapStrings, .ref q_t_theRing, .ref q_t_trial, .ref q_t_sheets, .int t_moves, .int t_latestFinding])), (q_t_trial, .inr (2, [.ref q_t_trial_ring, .ref q_t_trial_seen])), (q_t_trial_ring, .inr (1, [.int o_t_trial_ring_size, .long o_t_trial_ring_bits, .long o_t_trial_ring_made, .int o_t_trial_ring_carrierHas])), (q_t_trial_seen, .inl (cJ, 64, .inr (.inl o_t_trial_seen)))] (va_A [(q_t, .inr (6, [.ref q_t_theRow, .ref q_t_pairs, .ref q_t_latestStrings, .ref q_t_leapStrings, .ref q_t_theRing, .ref q_t_trial, .ref q_t_sheets, .int t_moves, .int t_latestFinding])), (q_t_trial, .inr (2, [.ref q_t_trial_ring, .ref q_t_trial_seen])), (q_t_trial_ring, .inr (1, [.int t_trial_ring_size, .long t_trial_ring_bits, .long t_trial_ring_made, .int t_trial_ring_carrierHas])), (q_t_trial_seen, .inl (cJ, 64, .inr (.inl t_trial_seen)))] sz) r) 0 0 (va_A [(q_t, .inr (6, [.ref q_t_theRow, .ref q_t_pairs, .ref q_t_latestStrings, .ref q_t_leapStrings, .ref q_t_theRing, .ref q_t_trial, .ref q_t_sheets, .int t_moves, .int t_latestFinding])), (q_t_trial, .inr (2, [.ref q_t_trial_ring, .ref q_t_trial_seen])), (q_t_trial_ring, .inr (1, [.int t_trial_ring_size, .long t_trial_ring_bits, .long t_trial_ring_made, .int t_trial_ring_carrierHas])), (q_t_trial_seen, .inl (cJ, 64, .inr (.inl t_trial_seen)))] sz) := by
  refine ctr (cc := cX6_rings) (maxL := 5) (ret := (some .int)) (by decide) rfl (Nat.le_of_ble_eq_true rfl) ?_
  intro p e s m below meth c S hr hlk hnm hK hN hsz hA hw ls hl
  generalize va_A [(q_t, .inr (6, [.ref q_t_theRow, .ref q_t_pairs, .ref q_t_latestStrings, .ref q_t_leapStrings, .ref q_t_theRing, .ref q_t_trial, .ref q_t_sheets, .int t_moves, .int t_latestFinding])), (q_t_trial, .inr (2, [.ref q_t_trial_ring, .ref q_t_trial_seen])), (q_t_trial_ring, .inr (1, [.int t_trial_ring_size, .long t_trial_ring_bits, .long t_trial_ring_made, .int t_trial_ring_carrierHas])), (q_t_trial_seen, .inl (cJ, 64, .inr (.inl t_trial_seen)))] sz = A at hA hw ⊢
  have S : CallFix p m c cX6_rings 5 s ([.ref q_t, .int p1, .int p2, .int p3, .int p4] : List Value).toArray wsX6_rings RX6 := S
  have hx := S.1
  have hb := S.2.1
  have hts := S.2.2.2.2
  have hl : lv_has ls 5 [(0, .ref q_t), (1, .int p1), (2, .int p2), (3, .int p3), (4, .int p4)] := hl
  have hinX6 : ∀ w ∈ u_ws RX6 TX6 9, w ∈ wsX6_rings := by decide +kernel
  have k43 : Cond.fieldLink RX6 43 "BallBoxes" "trial" "LBallBoxes$RingTrial;" ∈ wsX6_rings := by decide +kernel
  unfold f_X6_rings at hf
  refine lv_iload_n hx hb dX6_rings_0 rfl (lv_at hl 1 rfl) ?_
  refine lv_iconst (v := (1 : Int32)) hx hb dX6_rings_1 (by decide) ?_
  refine lv_icmp_lt (tgt := 28) hx hb dX6_rings_2 (by decide) (fun c1 => ?_) (fun c1 => ?_)
  · have hf := (if_pos c1).symm.trans hf
    refine lv_bipush (v := (-2 : Int32)) hx hb dX6_rings_28 (by decide) ?_
    obtain ⟨rfl, rfl, rfl, rfl, rfl, rfl⟩ := pr6 (Option.some.inj hf)
    exact rt_i S hr hlk hw dX6_rings_30
  · have hf := (if_neg c1).symm.trans hf
    refine lv_iload_n hx hb dX6_rings_5 rfl (lv_at hl 1 rfl) ?_
    refine lv_bipush (v := (12 : Int32)) hx hb dX6_rings_6 (by decide) ?_
    refine lv_icmp_gt (tgt := 28) hx hb dX6_rings_8 (by decide) (fun c2 => ?_) (fun c2 => ?_)
    · have hf := (if_pos c2).symm.trans hf
      refine lv_bipush (v := (-2 : Int32)) hx hb dX6_rings_28 (by decide) ?_
      obtain ⟨rfl, rfl, rfl, rfl, rfl, rfl⟩ := pr6 (Option.some.inj hf)
      exact rt_i S hr hlk hw dX6_rings_30
    · have hf := (if_neg c2).symm.trans hf
      refine lv_iload_n hx hb dX6_rings_11 rfl (lv_at hl 2 rfl) ?_
      refine lv_if_lt (tgt := 28) hx hb dX6_rings_12 (by decide) (fun c3 => ?_) (fun c3 => ?_)
      · have hf := (if_pos c3).symm.trans hf
        refine lv_bipush (v := (-2 : Int32)) hx hb dX6_rings_28 (by decide) ?_
        obtain ⟨rfl, rfl, rfl, rfl, rfl, rfl⟩ := pr6 (Option.some.inj hf)
        exact rt_i S hr hlk hw dX6_rings_30
      · have hf := (if_neg c3).symm.trans hf
        refine lv_iload_n hx hb dX6_rings_15 rfl (lv_at hl 2 rfl) ?_
        refine lv_iload_n hx hb dX6_rings_16 rfl (lv_at hl 1 rfl) ?_
        refine lv_icmp_gt (tgt := 28) hx hb dX6_rings_17 (by decide) (fun c4 => ?_) (fun c4 => ?_)
        · have hf := (if_pos c4).symm.trans hf
          refine lv_bipush (v := (-2 : Int32)) hx hb dX6_rings_28 (by decide) ?_
          obtain ⟨rfl, rfl, rfl, rfl, rfl, rfl⟩ := pr6 (Option.some.inj hf)
          exact rt_i S hr hlk hw dX6_rings_30
        · have hf := (if_neg c4).symm.trans hf
          refine lv_iload_n hx hb dX6_rings_20 rfl (lv_at hl 2 rfl) ?_
          refine lv_iload_n hx hb dX6_rings_21 rfl (lv_at hl 1 rfl) ?_
          obtain ⟨r5, h6, hf⟩ := bd1_some hf
          refine cl_i (wr := [(q_t, .inr (6, [.ref q_t_theRow, .ref q_t_pairs, .ref q_t_latestStrings, .ref q_t_leapStrings, .ref q_t_theRing, .ref q_t_trial, .ref q_t_sheets, .int t_moves, .int t_latestFinding])), (q_t_trial, .inr (2, [.ref q_t_trial_ring, .ref q_t_trial_seen])), (q_t_trial_ring, .inr (1, [.int t_trial_ring_size, .long t_trial_ring_bits, .long t_trial_ring_made, .int t_trial_ring_carrierHas])), (q_t_trial_seen, .inl (cJ, 64, .inr (.inl t_trial_seen)))]) (ws' := [(q_t, .inr (6, [.ref q_t_theRow, .ref q_t_pairs, .ref q_t_latestStrings, .ref q_t_leapStrings, .ref q_t_theRing, .ref q_t_trial, .ref q_t_sheets, .int t_moves, .int t_latestFinding])), (q_t_trial, .inr (2, [.ref q_t_trial_ring, .ref q_t_trial_seen])), (q_t_trial_ring, .inr (1, [.int t_trial_ring_size, .long t_trial_ring_bits, .long t_trial_ring_made, .int t_trial_ring_carrierHas])), (q_t_trial_seen, .inl (cJ, 64, .inr (.inl t_trial_seen)))]) hA hw [] [0, 1, 2, 3] [0, 1, 2, 3] rfl rfl rfl (by decide) rfl rfl (va_runS (As := [.int p2, .int p1]) (rest := []) S (c_X6_isFewerThanHalf l D cI cZ cJ cO _ N p2 p1 r5 h6) (va_cwS 2 hts gX6_rings_X6_isFewerThanHalf rfl rfl rfl (by decide +kernel) ⟨Nat.le_of_ble_eq_true rfl, Nat.le_of_ble_eq_true rfl⟩) (pre_S hK hN hw [] rfl rfl) rfl rfl hl.1 rfl (lv_room (Nat.le_of_ble_eq_true rfl)) dX6_rings_22 ⟨Nat.zero_le _, Nat.zero_le _⟩) (fun H locs hw => ?_)
          refine lv_if_ne (tgt := 31) hx hb dX6_rings_25 (by decide) (fun c7 => ?_) (fun c7 => ?_)
          · have hf := (if_neg c7).symm.trans hf
            refine lv_iload_n hx hb dX6_rings_31 rfl (lv_at hl 3 rfl) ?_
            obtain ⟨r8, h9, hf⟩ := bd1_some hf
            refine cl_i (wr := [(q_t, .inr (6, [.ref q_t_theRow, .ref q_t_pairs, .ref q_t_latestStrings, .ref q_t_leapStrings, .ref q_t_theRing, .ref q_t_trial, .ref q_t_sheets, .int t_moves, .int t_latestFinding])), (q_t_trial, .inr (2, [.ref q_t_trial_ring, .ref q_t_trial_seen])), (q_t_trial_ring, .inr (1, [.int t_trial_ring_size, .long t_trial_ring_bits, .long t_trial_ring_made, .int t_trial_ring_carrierHas])), (q_t_trial_seen, .inl (cJ, 64, .inr (.inl t_trial_seen)))]) (ws' := [(q_t, .inr (6, [.ref q_t_theRow, .ref q_t_pairs, .ref q_t_latestStrings, .ref q_t_leapStrings, .ref q_t_theRing, .ref q_t_trial, .ref q_t_sheets, .int t_moves, .int t_latestFinding])), (q_t_trial, .inr (2, [.ref q_t_trial_ring, .ref q_t_trial_seen])), (q_t_trial_ring, .inr (1, [.int t_trial_ring_size, .long t_trial_ring_bits, .long t_trial_ring_made, .int t_trial_ring_carrierHas])), (q_t_trial_seen, .inl (cJ, 64, .inr (.inl t_trial_seen)))]) hA hw [] [0, 1, 2, 3] [0, 1, 2, 3] rfl rfl rfl (by decide) rfl rfl (va_runS (As := [.int p3]) (rest := []) S (c_X6_isRoom l D cI cZ cJ cO _ N p3 r8 h9) (va_cwS 1 hts gX6_rings_X6_isRoom rfl rfl rfl (by decide +kernel) ⟨Nat.le_of_ble_eq_true rfl, Nat.le_of_ble_eq_true rfl⟩) (pre_S hK hN hw [] rfl rfl) rfl rfl hl.1 rfl (lv_room (Nat.le_of_ble_eq_true rfl)) dX6_rings_32 ⟨Nat.zero_le _, Nat.zero_le _⟩) (fun H locs hw => ?_)
            refine lv_if_eq (tgt := 43) hx hb dX6_rings_35 (by decide) (fun c10 => ?_) (fun c10 => ?_)
            · have hf := (if_pos c10).symm.trans hf
              refine lv_bipush (v := (-2 : Int32)) hx hb dX6_rings_43 (by decide) ?_
              obtain ⟨rfl, rfl, rfl, rfl, rfl, rfl⟩ := pr6 (Option.some.inj hf)
              exact rt_i S hr hlk hw dX6_rings_45
            · have hf := (if_neg c10).symm.trans hf
              refine lv_iload hx hb dX6_rings_38 (lv_at hl 4 rfl) ?_
              refine lv_if_ge (tgt := 46) hx hb dX6_rings_40 (by decide) (fun c11 => ?_) (fun c11 => ?_)
              · have hf := (if_pos c11).symm.trans hf
                refine lv_iload hx hb dX6_rings_46 (lv_at hl 4 rfl) ?_
                refine lv_if_ne (tgt := 63) hx hb dX6_rings_48 (by decide) (fun c12 => ?_) (fun c12 => ?_)
                · have hf := (if_neg c12).symm.trans hf
                  refine lv_aload_n hx hb dX6_rings_63 rfl (lv_at hl 0 rfl) ?_
                  refine g_get (ci := 6) (C := RX6) (T := TX6) (N := 9) S hinX6 hK hw 0 5 k43 dX6_rings_64 rfl rfl (by decide) rfl ?_
                  refine lv_iload_n hx hb dX6_rings_67 rfl (lv_at hl 1 rfl) ?_
                  refine lv_iload_n hx hb dX6_rings_68 rfl (lv_at hl 2 rfl) ?_
                  refine lv_iload_n hx hb dX6_rings_69 rfl (lv_at hl 3 rfl) ?_
                  refine lv_iload hx hb dX6_rings_70 (lv_at hl 4 rfl) ?_
                  obtain ⟨r13, u14, u15, u16, u17, u18, h19, hf⟩ := bd6_some hf
                  refine cl_i (wr := [(q_t, .inr (6, [.ref q_t_theRow, .ref q_t_pairs, .ref q_t_latestStrings, .ref q_t_leapStrings, .ref q_t_theRing, .ref q_t_trial, .ref q_t_sheets, .int t_moves, .int t_latestFinding]))]) (ws' := [(q_t, .inr (6, [.ref q_t_theRow, .ref q_t_pairs, .ref q_t_latestStrings, .ref q_t_leapStrings, .ref q_t_theRing, .ref q_t_trial, .ref q_t_sheets, .int t_moves, .int t_latestFinding])), (q_t_trial, .inr (2, [.ref q_t_trial_ring, .ref q_t_trial_seen])), (q_t_trial_ring, .inr (1, [.int u14, .long u15, .long u16, .int u17])), (q_t_trial_seen, .inl (cJ, 64, .inr (.inl u18)))]) hA hw [1, 2, 3] [0] [0, 1, 2, 3] rfl rfl rfl (by decide) rfl rfl (va_runV (As := [.int p1, .int p2, .int p3, .int p4]) (rest := []) S (c_X2_countWithPeriod l D cI cZ cJ cO _ q_t_trial q_t_trial_ring q_t_trial_seen N p1 p2 p3 p4 t_trial_ring_size t_trial_ring_bits t_trial_ring_made t_trial_ring_carrierHas t_trial_seen r13 u14 u15 u16 u17 u18 h19) (cwV 4 hts gX6_rings_X2_countWithPeriod rfl rfl rfl (by decide +kernel) ⟨Nat.le_of_ble_eq_true rfl, Nat.le_of_ble_eq_true rfl⟩) (pre_V hK hN hw [1, 2, 3] rfl rfl (C := RX2) (T := TX2) (N := 2) (ci := 2) (q0 := 0) rfl rfl) rfl rfl hl.1 rfl (lv_room (Nat.le_of_ble_eq_true rfl)) dX6_rings_72 ⟨Nat.zero_le _, Nat.zero_le _⟩) (fun H locs hw => ?_)
                  obtain ⟨rfl, rfl, rfl, rfl, rfl, rfl⟩ := pr6 (Option.some.inj hf)
                  exact rt_i S hr hlk hw dX6_rings_75
                · have hf := (if_pos c12).symm.trans hf
                  refine lv_aload_n hx hb dX6_rings_51 rfl (lv_at hl 0 rfl) ?_
                  refine g_get (ci := 6) (C := RX6) (T := TX6) (N := 9) S hinX6 hK hw 0 5 k43 dX6_rings_52 rfl rfl (by decide) rfl ?_
                  refine lv_iload_n hx hb dX6_rings_55 rfl (lv_at hl 1 rfl) ?_
                  refine lv_iload_n hx hb dX6_rings_56 rfl (lv_at hl 2 rfl) ?_
                  obtain ⟨r20, h21, hf⟩ := bd1_some hf
                  refine cl_i (wr := [(q_t, .inr (6, [.ref q_t_theRow, .ref q_t_pairs, .ref q_t_latestStrings, .ref q_t_leapStrings, .ref q_t_theRing, .ref q_t_trial, .ref q_t_sheets, .int t_moves, .int t_latestFinding])), (q_t_trial_ring, .inr (1, [.int t_trial_ring_size, .long t_trial_ring_bits, .long t_trial_ring_made, .int t_trial_ring_carrierHas])), (q_t_trial_seen, .inl (cJ, 64, .inr (.inl t_trial_seen)))]) (ws' := [(q_t, .inr (6, [.ref q_t_theRow, .ref q_t_pairs, .ref q_t_latestStrings, .ref q_t_leapStrings, .ref q_t_theRing, .ref q_t_trial, .ref q_t_sheets, .int t_moves, .int t_latestFinding])), (q_t_trial, .inr (2, [.ref q_t_trial_ring, .ref q_t_trial_seen])), (q_t_trial_ring, .inr (1, [.int t_trial_ring_size, .long t_trial_ring_bits, .long t_trial_ring_made, .int t_trial_ring_carrierHas])), (q_t_trial_seen, .inl (cJ, 64, .inr (.inl t_trial_seen)))]) hA hw [1] [0, 2, 3] [0, 3, 1, 2] rfl rfl rfl (by decide) rfl rfl (va_runV (As := [.int p1, .int p2]) (rest := []) S (c_X2_countAll l D cI cZ cJ cO _ q_t_trial q_t_trial_ring q_t_trial_seen N p1 p2 r20 h21) (cwV 2 hts gX6_rings_X2_countAll rfl rfl rfl (by decide +kernel) ⟨Nat.le_of_ble_eq_true rfl, Nat.le_of_ble_eq_true rfl⟩) (pre_V hK hN hw [1] rfl rfl (C := RX2) (T := TX2) (N := 2) (ci := 2) (q0 := 0) rfl rfl) rfl rfl hl.1 rfl (lv_room (Nat.le_of_ble_eq_true rfl)) dX6_rings_57 ⟨Nat.zero_le _, Nat.zero_le _⟩) (fun H locs hw => ?_)
                  refine lv_goto (tgt := 75) hx hb dX6_rings_60 (by decide) ?_
                  obtain ⟨rfl, rfl, rfl, rfl, rfl, rfl⟩ := pr6 (Option.some.inj hf)
                  exact rt_i S hr hlk hw dX6_rings_75
              · have hf := (if_neg c11).symm.trans hf
                refine lv_bipush (v := (-2 : Int32)) hx hb dX6_rings_43 (by decide) ?_
                obtain ⟨rfl, rfl, rfl, rfl, rfl, rfl⟩ := pr6 (Option.some.inj hf)
                exact rt_i S hr hlk hw dX6_rings_45
          · have hf := (if_pos c7).symm.trans hf
            refine lv_bipush (v := (-2 : Int32)) hx hb dX6_rings_28 (by decide) ?_
            obtain ⟨rfl, rfl, rfl, rfl, rfl, rfl⟩ := pr6 (Option.some.inj hf)
            exact rt_i S hr hlk hw dX6_rings_30

def f_X6_sheet_n (_ : Nat) (p1 : Int32) (p2 : Int32) (p3 : Int32) (t_sheets : (Nat → Option Nat)) : Option (Int32) :=
  (some (-2 : Int32))

set_option maxHeartbeats 4000000 in
set_option maxRecDepth 100000 in
theorem c_X6_sheet_n (l : Launch) (D : va_G) (cI cZ cJ cO : ClassId) (sz : Nat) (q_t q_t_theRow q_t_pairs q_t_latestStrings q_t_leapStrings q_t_theRing q_t_trial q_t_sheets : Nat) (N : Nat) (p1 : Int32) (p2 : Int32) (p3 : Int32) (t_moves : Int32) (t_latestFinding : Int32) (t_sheets : (Nat → Option Nat)) (r : Int32) (hs0 : shOf p1 t_sheets = none) (hf : f_X6_sheet_n N p1 p2 p3 t_sheets = some r) : Met l yX6_sheet wsX6_sheet ({ frames := 1, cells := 0, slots := 0, locals := 21 }) (PreC D (TY cI cZ cJ cO) [.ref q_t, .int p1, .int p2, .int p3] [(q_t, .inr (6, [.ref q_t_theRow, .ref q_t_pairs, .ref q_t_latestStrings, .ref q_t_leapStrings, .ref q_t_theRing, .ref q_t_trial, .ref q_t_sheets, .int t_moves, .int t_latestFinding])), (q_t_sheets, .inl (cO, 4, .inr (.inr (.inr (.inr t_sheets)))))] sz) (QcI D [(q_t, .inr (6, [.ref q_t_theRow, .ref q_t_pairs, .ref q_t_latestStrings, .ref q_t_leapStrings, .ref q_t_theRing, .ref q_t_trial, .ref q_t_sheets, .int t_moves, .int t_latestFinding])), (q_t_sheets, .inl (cO, 4, .inr (.inr (.inr (.inr t_sheets)))))] (va_A [(q_t, .inr (6, [.ref q_t_theRow, .ref q_t_pairs, .ref q_t_latestStrings, .ref q_t_leapStrings, .ref q_t_theRing, .ref q_t_trial, .ref q_t_sheets, .int t_moves, .int t_latestFinding])), (q_t_sheets, .inl (cO, 4, .inr (.inr (.inr (.inr t_sheets)))))] sz) r) 0 0 (va_A [(q_t, .inr (6, [.ref q_t_theRow, .ref q_t_pairs, .ref q_t_latestStrings, .ref q_t_leapStrings, .ref q_t_theRing, .ref q_t_trial, .ref q_t_sheets, .int t_moves, .int t_latestFinding])), (q_t_sheets, .inl (cO, 4, .inr (.inr (.inr (.inr t_sheets)))))] sz) := by
  refine ctr (cc := cX6_sheet) (maxL := 5) (ret := (some .int)) (by decide) rfl (Nat.le_of_ble_eq_true rfl) ?_
  intro p e s m below meth c S hr hlk hnm hK hN hsz hA hw ls hl
  generalize va_A [(q_t, .inr (6, [.ref q_t_theRow, .ref q_t_pairs, .ref q_t_latestStrings, .ref q_t_leapStrings, .ref q_t_theRing, .ref q_t_trial, .ref q_t_sheets, .int t_moves, .int t_latestFinding])), (q_t_sheets, .inl (cO, 4, .inr (.inr (.inr (.inr t_sheets)))))] sz = A at hA hw ⊢
  have S : CallFix p m c cX6_sheet 5 s ([.ref q_t, .int p1, .int p2, .int p3] : List Value).toArray wsX6_sheet RX6 := S
  have hx := S.1
  have hb := S.2.1
  have hts := S.2.2.2.2
  have hl : lv_has ls 5 [(0, .ref q_t), (1, .int p1), (2, .int p2), (3, .int p3)] := hl
  unfold f_X6_sheet_n at hf
  refine lv_aload_n hx hb dX6_sheet_0 rfl (lv_at hl 0 rfl) ?_
  refine lv_iload_n hx hb dX6_sheet_1 rfl (lv_at hl 1 rfl) ?_
  refine cl_q (wr := []) (ws' := [(q_t, .inr (6, [.ref q_t_theRow, .ref q_t_pairs, .ref q_t_latestStrings, .ref q_t_leapStrings, .ref q_t_theRing, .ref q_t_trial, .ref q_t_sheets, .int t_moves, .int t_latestFinding])), (q_t_sheets, .inl (cO, 4, .inr (.inr (.inr (.inr t_sheets)))))]) hA hw [0, 1] [] [0, 1] rfl rfl rfl (by decide) rfl rfl (va_runV (As := [.int p1]) (rest := []) S (c_X6_sheetOf l D cI cZ cJ cO _ q_t_theRow q_t_pairs q_t_latestStrings q_t_leapStrings q_t_theRing q_t_trial q_t_sheets t_moves t_latestFinding q_t t_sheets p1) (cwV 1 hts gX6_sheet_X6_sheetOf rfl rfl rfl (by decide +kernel) ⟨Nat.le_of_ble_eq_true rfl, Nat.le_of_ble_eq_true rfl⟩) (pre_V hK hN hw [0, 1] rfl rfl (C := RX6) (T := TX6) (N := 9) (ci := 6) (q0 := 0) rfl rfl) rfl rfl hl.1 rfl (lv_room (Nat.le_of_ble_eq_true rfl)) dX6_sheet_2 ⟨Nat.zero_le _, Nat.zero_le _⟩) (fun H locs hw => ?_)
  rw [hs0]
  refine W.eq (g2 := F0 m 5 ls [.null]) rfl ?_
  refine lv_astoreN (lv' := [(4, .null), (0, .ref q_t), (1, .int p1), (2, .int p2), (3, .int p3)]) hx hb dX6_sheet_5 hl (by decide) rfl (fun ls hl => ?_)
  refine lv_aloadN hx hb dX6_sheet_7 (lv_at hl 0 rfl) ?_
  refine lv_ifnullN (tgt := 25) hx hb dX6_sheet_9 (by decide) ?_
  refine lv_bipush (v := (-2 : Int32)) hx hb dX6_sheet_25 (by decide) ?_
  obtain rfl := Option.some.inj hf
  exact rt_i S hr hlk hw dX6_sheet_27

def f_X6_find (_ : Nat) (p1 : Int32) (t_latestFinding : Int32) : Option (Int32 × Int32) :=
  (some (((-10 : Int32) - p1), p1))

set_option maxHeartbeats 4000000 in
set_option maxRecDepth 100000 in
theorem c_X6_find (l : Launch) (D : va_G) (cI cZ cJ cO : ClassId) (sz : Nat) (q_t q_t_theRow q_t_pairs q_t_latestStrings q_t_leapStrings q_t_theRing q_t_trial q_t_sheets : Nat) (N : Nat) (p1 : Int32) (t_moves : Int32) (t_latestFinding : Int32) (r : Int32) (o_t_latestFinding : Int32) (hf : f_X6_find N p1 t_latestFinding = some (r, o_t_latestFinding)) : Met l yX6_find wsX6_find ({ frames := 0, cells := 0, slots := 0, locals := 0 }) (PreC D (TY cI cZ cJ cO) [.ref q_t, .int p1] [(q_t, .inr (6, [.ref q_t_theRow, .ref q_t_pairs, .ref q_t_latestStrings, .ref q_t_leapStrings, .ref q_t_theRing, .ref q_t_trial, .ref q_t_sheets, .int t_moves, .int t_latestFinding]))] sz) (QcI D [(q_t, .inr (6, [.ref q_t_theRow, .ref q_t_pairs, .ref q_t_latestStrings, .ref q_t_leapStrings, .ref q_t_theRing, .ref q_t_trial, .ref q_t_sheets, .int t_moves, .int o_t_latestFinding]))] (va_A [(q_t, .inr (6, [.ref q_t_theRow, .ref q_t_pairs, .ref q_t_latestStrings, .ref q_t_leapStrings, .ref q_t_theRing, .ref q_t_trial, .ref q_t_sheets, .int t_moves, .int t_latestFinding]))] sz) r) 0 0 (va_A [(q_t, .inr (6, [.ref q_t_theRow, .ref q_t_pairs, .ref q_t_latestStrings, .ref q_t_leapStrings, .ref q_t_theRing, .ref q_t_trial, .ref q_t_sheets, .int t_moves, .int t_latestFinding]))] sz) := by
  refine ctr (cc := cX6_find) (maxL := 2) (ret := (some .int)) (by decide) rfl (Nat.le_of_ble_eq_true rfl) ?_
  intro p e s m below meth c S hr hlk hnm hK hN hsz hA hw ls hl
  generalize va_A [(q_t, .inr (6, [.ref q_t_theRow, .ref q_t_pairs, .ref q_t_latestStrings, .ref q_t_leapStrings, .ref q_t_theRing, .ref q_t_trial, .ref q_t_sheets, .int t_moves, .int t_latestFinding]))] sz = A at hA hw ⊢
  have S : CallFix p m c cX6_find 2 s ([.ref q_t, .int p1] : List Value).toArray wsX6_find RX6 := S
  have hx := S.1
  have hb := S.2.1
  have hts := S.2.2.2.2
  have hl : lv_has ls 2 [(0, .ref q_t), (1, .int p1)] := hl
  have hinX6 : ∀ w ∈ u_ws RX6 TX6 9, w ∈ wsX6_find := by decide +kernel
  have k227 : Cond.fieldLink RX6 227 "BallBoxes" "latestFinding" "I" ∈ wsX6_find := by decide +kernel
  unfold f_X6_find at hf
  refine lv_aload_n hx hb dX6_find_0 rfl (lv_at hl 0 rfl) ?_
  refine lv_iload_n hx hb dX6_find_1 rfl (lv_at hl 1 rfl) ?_
  refine g_put (ci := 6) (C := RX6) (T := TX6) (N := 9) (ws' := [(q_t, .inr (6, [.ref q_t_theRow, .ref q_t_pairs, .ref q_t_latestStrings, .ref q_t_leapStrings, .ref q_t_theRing, .ref q_t_trial, .ref q_t_sheets, .int t_moves, .int p1]))]) S hinX6 tyX6 tyX6_ok nmX6 hK hw 0 8 k227 dX6_find_2 rfl rfl (by decide) rfl rfl rfl (Nat.le_of_ble_eq_true rfl) rfl (fun H locs hw => ?_)
  refine lv_bipush (v := (-10 : Int32)) hx hb dX6_find_5 (by decide) ?_
  refine lv_iload_n hx hb dX6_find_7 rfl (lv_at hl 1 rfl) ?_
  refine lv_isub hx hb dX6_find_8 ?_
  obtain ⟨rfl, rfl⟩ := pr2 (Option.some.inj hf)
  exact rt_i S hr hlk hw dX6_find_9

def f_X6_isForm (_ : Nat) (p0 : Int32)  : Option (Int32) :=
  (if p0 < (0 : Int32) then (some (0 : Int32)) else (if (3 : Int32) ≤ p0 then (some (0 : Int32)) else (some (1 : Int32))))

set_option maxHeartbeats 4000000 in
set_option maxRecDepth 100000 in
theorem c_X6_isForm (l : Launch) (D : va_G) (cI cZ cJ cO : ClassId) (sz : Nat) (N : Nat) (p0 : Int32)  (r : Int32) (hf : f_X6_isForm N p0 = some r) : Met l yX6_isForm wsX6_isForm ({ frames := 0, cells := 0, slots := 0, locals := 0 }) (PreC D (TY cI cZ cJ cO) [.int p0] [] sz) (QcI D [] (va_A [] sz) r) 0 0 (va_A [] sz) := by
  refine ctr (cc := cX6_isForm) (maxL := 1) (ret := (some .boolean)) (by decide) rfl (Nat.le_of_ble_eq_true rfl) ?_
  intro p e s m below meth c S hr hlk hnm hK hN hsz hA hw ls hl
  generalize va_A [] sz = A at hA hw ⊢
  have S : CallFix p m c cX6_isForm 1 s ([.int p0] : List Value).toArray wsX6_isForm RX6 := S
  have hx := S.1
  have hb := S.2.1
  have hts := S.2.2.2.2
  have hl : lv_has ls 1 [(0, .int p0)] := hl
  unfold f_X6_isForm at hf
  refine lv_iload_n hx hb dX6_isForm_0 rfl (lv_at hl 0 rfl) ?_
  refine lv_if_lt (tgt := 13) hx hb dX6_isForm_1 (by decide) (fun c1 => ?_) (fun c1 => ?_)
  · have hf := (if_pos c1).symm.trans hf
    refine lv_iconst (v := (0 : Int32)) hx hb dX6_isForm_13 (by decide) ?_
    obtain rfl := Option.some.inj hf
    exact rt_z S hr hlk hw dX6_isForm_14 rfl
  · have hf := (if_neg c1).symm.trans hf
    refine lv_iload_n hx hb dX6_isForm_4 rfl (lv_at hl 0 rfl) ?_
    refine lv_iconst (v := (3 : Int32)) hx hb dX6_isForm_5 (by decide) ?_
    refine lv_icmp_ge (tgt := 13) hx hb dX6_isForm_6 (by decide) (fun c2 => ?_) (fun c2 => ?_)
    · have hf := (if_pos c2).symm.trans hf
      refine lv_iconst (v := (0 : Int32)) hx hb dX6_isForm_13 (by decide) ?_
      obtain rfl := Option.some.inj hf
      exact rt_z S hr hlk hw dX6_isForm_14 rfl
    · have hf := (if_neg c2).symm.trans hf
      refine lv_iconst (v := (1 : Int32)) hx hb dX6_isForm_9 (by decide) ?_
      refine lv_goto (tgt := 14) hx hb dX6_isForm_10 (by decide) ?_
      obtain rfl := Option.some.inj hf
      exact rt_z S hr hlk hw dX6_isForm_14 rfl

def f_X6_sheet_S (N : Nat) (p1 : Int32) (p2 : Int32) (p3 : Int32) (t_latestFinding : Int32) (t_sheets : (Nat → Option Nat)) (S_lost : Int32) (S_form : Int32) (S_size : Int32) (S_items : (Nat → Int32)) : Option (Int32 × Int32 × Int32 × Int32 × Int32 × (Nat → Int32)) :=
  (bd1 (f_X6_isForm N p2) (fun r1 => (if r1 = (0 : Int32) then (some ((-2 : Int32), t_latestFinding, S_lost, S_form, S_size, S_items)) else (if p3 ≤ (100 : Int32) then (if (0 : Int32) ≤ p3 then (bd4 (f_X4_begin N p2 p3 S_lost S_form S_size S_items) (fun u6 u7 u8 u9 => (some (p3, t_latestFinding, u6, u7, u8, u9)))) else (bd2 (f_X6_find N (5 : Int32) t_latestFinding) (fun r11 u12 => (some (r11, u12, S_lost, S_form, S_size, S_items))))) else (some ((-2 : Int32), t_latestFinding, S_lost, S_form, S_size, S_items))))))

set_option maxHeartbeats 4000000 in
set_option maxRecDepth 100000 in
theorem c_X6_sheet_S (l : Launch) (D : va_G) (cI cZ cJ cO : ClassId) (sz : Nat) (q_t q_t_theRow q_t_pairs q_t_latestStrings q_t_leapStrings q_t_theRing q_t_trial q_t_sheets q_S q_S_items : Nat) (N : Nat) (p1 : Int32) (p2 : Int32) (p3 : Int32) (t_moves : Int32) (t_latestFinding : Int32) (t_sheets : (Nat → Option Nat)) (S_lost : Int32) (S_form : Int32) (S_size : Int32) (S_items : (Nat → Int32)) (r : Int32) (o_t_latestFinding : Int32) (o_S_lost : Int32) (o_S_form : Int32) (o_S_size : Int32) (o_S_items : (Nat → Int32)) (hs0 : shOf p1 t_sheets = some q_S) (hf : f_X6_sheet_S N p1 p2 p3 t_latestFinding t_sheets S_lost S_form S_size S_items = some (r, o_t_latestFinding, o_S_lost, o_S_form, o_S_size, o_S_items)) : Met l yX6_sheet wsX6_sheet ({ frames := 1, cells := 0, slots := 0, locals := 23 }) (PreC D (TY cI cZ cJ cO) [.ref q_t, .int p1, .int p2, .int p3] [(q_t, .inr (6, [.ref q_t_theRow, .ref q_t_pairs, .ref q_t_latestStrings, .ref q_t_leapStrings, .ref q_t_theRing, .ref q_t_trial, .ref q_t_sheets, .int t_moves, .int t_latestFinding])), (q_t_sheets, .inl (cO, 4, .inr (.inr (.inr (.inr t_sheets))))), (q_S, .inr (4, [.ref q_S_items, .int S_lost, .int S_form, .int S_size])), (q_S_items, .inl (cI, 100, .inl S_items))] sz) (QcI D [(q_t, .inr (6, [.ref q_t_theRow, .ref q_t_pairs, .ref q_t_latestStrings, .ref q_t_leapStrings, .ref q_t_theRing, .ref q_t_trial, .ref q_t_sheets, .int t_moves, .int o_t_latestFinding])), (q_t_sheets, .inl (cO, 4, .inr (.inr (.inr (.inr t_sheets))))), (q_S, .inr (4, [.ref q_S_items, .int o_S_lost, .int o_S_form, .int o_S_size])), (q_S_items, .inl (cI, 100, .inl o_S_items))] (va_A [(q_t, .inr (6, [.ref q_t_theRow, .ref q_t_pairs, .ref q_t_latestStrings, .ref q_t_leapStrings, .ref q_t_theRing, .ref q_t_trial, .ref q_t_sheets, .int t_moves, .int t_latestFinding])), (q_t_sheets, .inl (cO, 4, .inr (.inr (.inr (.inr t_sheets))))), (q_S, .inr (4, [.ref q_S_items, .int S_lost, .int S_form, .int S_size])), (q_S_items, .inl (cI, 100, .inl S_items))] sz) r) 0 0 (va_A [(q_t, .inr (6, [.ref q_t_theRow, .ref q_t_pairs, .ref q_t_latestStrings, .ref q_t_leapStrings, .ref q_t_theRing, .ref q_t_trial, .ref q_t_sheets, .int t_moves, .int t_latestFinding])), (q_t_sheets, .inl (cO, 4, .inr (.inr (.inr (.inr t_sheets))))), (q_S, .inr (4, [.ref q_S_items, .int S_lost, .int S_form, .int S_size])), (q_S_items, .inl (cI, 100, .inl S_items))] sz) := by
  refine ctr (cc := cX6_sheet) (maxL := 5) (ret := (some .int)) (by decide) rfl (Nat.le_of_ble_eq_true rfl) ?_
  intro p e s m below meth c S hr hlk hnm hK hN hsz hA hw ls hl
  generalize va_A [(q_t, .inr (6, [.ref q_t_theRow, .ref q_t_pairs, .ref q_t_latestStrings, .ref q_t_leapStrings, .ref q_t_theRing, .ref q_t_trial, .ref q_t_sheets, .int t_moves, .int t_latestFinding])), (q_t_sheets, .inl (cO, 4, .inr (.inr (.inr (.inr t_sheets))))), (q_S, .inr (4, [.ref q_S_items, .int S_lost, .int S_form, .int S_size])), (q_S_items, .inl (cI, 100, .inl S_items))] sz = A at hA hw ⊢
  have S : CallFix p m c cX6_sheet 5 s ([.ref q_t, .int p1, .int p2, .int p3] : List Value).toArray wsX6_sheet RX6 := S
  have hx := S.1
  have hb := S.2.1
  have hts := S.2.2.2.2
  have hl : lv_has ls 5 [(0, .ref q_t), (1, .int p1), (2, .int p2), (3, .int p3)] := hl
  unfold f_X6_sheet_S at hf
  refine lv_aload_n hx hb dX6_sheet_0 rfl (lv_at hl 0 rfl) ?_
  refine lv_iload_n hx hb dX6_sheet_1 rfl (lv_at hl 1 rfl) ?_
  refine cl_q (wr := [(q_S, .inr (4, [.ref q_S_items, .int S_lost, .int S_form, .int S_size])), (q_S_items, .inl (cI, 100, .inl S_items))]) (ws' := [(q_t, .inr (6, [.ref q_t_theRow, .ref q_t_pairs, .ref q_t_latestStrings, .ref q_t_leapStrings, .ref q_t_theRing, .ref q_t_trial, .ref q_t_sheets, .int t_moves, .int t_latestFinding])), (q_t_sheets, .inl (cO, 4, .inr (.inr (.inr (.inr t_sheets))))), (q_S, .inr (4, [.ref q_S_items, .int S_lost, .int S_form, .int S_size])), (q_S_items, .inl (cI, 100, .inl S_items))]) hA hw [0, 1] [2, 3] [2, 3, 0, 1] rfl rfl rfl (by decide) rfl rfl (va_runV (As := [.int p1]) (rest := []) S (c_X6_sheetOf l D cI cZ cJ cO _ q_t_theRow q_t_pairs q_t_latestStrings q_t_leapStrings q_t_theRing q_t_trial q_t_sheets t_moves t_latestFinding q_t t_sheets p1) (cwV 1 hts gX6_sheet_X6_sheetOf rfl rfl rfl (by decide +kernel) ⟨Nat.le_of_ble_eq_true rfl, Nat.le_of_ble_eq_true rfl⟩) (pre_V hK hN hw [0, 1] rfl rfl (C := RX6) (T := TX6) (N := 9) (ci := 6) (q0 := 0) rfl rfl) rfl rfl hl.1 rfl (lv_room (Nat.le_of_ble_eq_true rfl)) dX6_sheet_2 ⟨Nat.zero_le _, Nat.zero_le _⟩) (fun H locs hw => ?_)
  rw [hs0]
  refine W.eq (g2 := F0 m 5 ls [.ref q_S]) rfl ?_
  refine lv_astore (lv' := [(4, .ref q_S), (0, .ref q_t), (1, .int p1), (2, .int p2), (3, .int p3)]) hx hb dX6_sheet_5 hl (by decide) rfl (fun ls hl => ?_)
  refine lv_aload hx hb dX6_sheet_7 (lv_at hl 0 rfl) ?_
  refine lv_ifnull hx hb dX6_sheet_9 ?_
  refine lv_iload_n hx hb dX6_sheet_12 rfl (lv_at hl 3 rfl) ?_
  obtain ⟨r1, h2, hf⟩ := bd1_some hf
  refine cl_i (wr := [(q_t, .inr (6, [.ref q_t_theRow, .ref q_t_pairs, .ref q_t_latestStrings, .ref q_t_leapStrings, .ref q_t_theRing, .ref q_t_trial, .ref q_t_sheets, .int t_moves, .int t_latestFinding])), (q_t_sheets, .inl (cO, 4, .inr (.inr (.inr (.inr t_sheets))))), (q_S, .inr (4, [.ref q_S_items, .int S_lost, .int S_form, .int S_size])), (q_S_items, .inl (cI, 100, .inl S_items))]) (ws' := [(q_t, .inr (6, [.ref q_t_theRow, .ref q_t_pairs, .ref q_t_latestStrings, .ref q_t_leapStrings, .ref q_t_theRing, .ref q_t_trial, .ref q_t_sheets, .int t_moves, .int t_latestFinding])), (q_t_sheets, .inl (cO, 4, .inr (.inr (.inr (.inr t_sheets))))), (q_S, .inr (4, [.ref q_S_items, .int S_lost, .int S_form, .int S_size])), (q_S_items, .inl (cI, 100, .inl S_items))]) hA hw [] [0, 1, 2, 3] [0, 1, 2, 3] rfl rfl rfl (by decide) rfl rfl (va_runS (As := [.int p2]) (rest := []) S (c_X6_isForm l D cI cZ cJ cO _ N p2 r1 h2) (va_cwS 1 hts gX6_sheet_X6_isForm rfl rfl rfl (by decide +kernel) ⟨Nat.le_of_ble_eq_true rfl, Nat.le_of_ble_eq_true rfl⟩) (pre_S hK hN hw [] rfl rfl) rfl rfl hl.1 rfl (lv_room (Nat.le_of_ble_eq_true rfl)) dX6_sheet_13 ⟨Nat.zero_le _, Nat.zero_le _⟩) (fun H locs hw => ?_)
  refine lv_if_eq (tgt := 25) hx hb dX6_sheet_16 (by decide) (fun c3 => ?_) (fun c3 => ?_)
  · have hf := (if_pos c3).symm.trans hf
    refine lv_bipush (v := (-2 : Int32)) hx hb dX6_sheet_25 (by decide) ?_
    obtain ⟨rfl, rfl, rfl, rfl, rfl, rfl⟩ := pr6 (Option.some.inj hf)
    exact rt_i S hr hlk hw dX6_sheet_27
  · have hf := (if_neg c3).symm.trans hf
    refine lv_iload_n hx hb dX6_sheet_19 rfl (lv_at hl 4 rfl) ?_
    refine lv_bipush (v := (100 : Int32)) hx hb dX6_sheet_20 (by decide) ?_
    refine lv_icmp_le (tgt := 28) hx hb dX6_sheet_22 (by decide) (fun c4 => ?_) (fun c4 => ?_)
    · have hf := (if_pos c4).symm.trans hf
      refine lv_iload_n hx hb dX6_sheet_28 rfl (lv_at hl 4 rfl) ?_
      refine lv_if_ge (tgt := 38) hx hb dX6_sheet_29 (by decide) (fun c5 => ?_) (fun c5 => ?_)
      · have hf := (if_pos c5).symm.trans hf
        refine lv_aload hx hb dX6_sheet_38 (lv_at hl 0 rfl) ?_
        refine lv_iload_n hx hb dX6_sheet_40 rfl (lv_at hl 3 rfl) ?_
        refine lv_iload_n hx hb dX6_sheet_41 rfl (lv_at hl 4 rfl) ?_
        obtain ⟨u6, u7, u8, u9, h10, hf⟩ := bd4_some hf
        refine cl_v (wr := [(q_t, .inr (6, [.ref q_t_theRow, .ref q_t_pairs, .ref q_t_latestStrings, .ref q_t_leapStrings, .ref q_t_theRing, .ref q_t_trial, .ref q_t_sheets, .int t_moves, .int t_latestFinding])), (q_t_sheets, .inl (cO, 4, .inr (.inr (.inr (.inr t_sheets)))))]) (ws' := [(q_t, .inr (6, [.ref q_t_theRow, .ref q_t_pairs, .ref q_t_latestStrings, .ref q_t_leapStrings, .ref q_t_theRing, .ref q_t_trial, .ref q_t_sheets, .int t_moves, .int t_latestFinding])), (q_t_sheets, .inl (cO, 4, .inr (.inr (.inr (.inr t_sheets))))), (q_S, .inr (4, [.ref q_S_items, .int u6, .int u7, .int u8])), (q_S_items, .inl (cI, 100, .inl u9))]) hA hw [2, 3] [0, 1] [0, 1, 2, 3] rfl rfl rfl (by decide) rfl rfl (va_runV (As := [.int p2, .int p3]) (rest := []) S (c_X4_begin l D cI cZ cJ cO _ q_S q_S_items N p2 p3 S_lost S_form S_size S_items u6 u7 u8 u9 h10) (cwV 2 hts gX6_sheet_X4_begin rfl rfl rfl (by decide +kernel) ⟨Nat.le_of_ble_eq_true rfl, Nat.le_of_ble_eq_true rfl⟩) (pre_V hK hN hw [2, 3] rfl rfl (C := RX4) (T := TX4) (N := 4) (ci := 4) (q0 := 0) rfl rfl) rfl rfl hl.1 rfl (lv_room (Nat.le_of_ble_eq_true rfl)) dX6_sheet_42 ⟨Nat.zero_le _, Nat.zero_le _⟩) (fun H locs hw => ?_)
        refine lv_iload_n hx hb dX6_sheet_45 rfl (lv_at hl 4 rfl) ?_
        obtain ⟨rfl, rfl, rfl, rfl, rfl, rfl⟩ := pr6 (Option.some.inj hf)
        exact rt_i S hr hlk hw dX6_sheet_46
      · have hf := (if_neg c5).symm.trans hf
        refine lv_aload_n hx hb dX6_sheet_32 rfl (lv_at hl 1 rfl) ?_
        refine lv_iconst (v := (5 : Int32)) hx hb dX6_sheet_33 (by decide) ?_
        obtain ⟨r11, u12, h13, hf⟩ := bd2_some hf
        refine cl_i (wr := [(q_t_sheets, .inl (cO, 4, .inr (.inr (.inr (.inr t_sheets))))), (q_S, .inr (4, [.ref q_S_items, .int S_lost, .int S_form, .int S_size])), (q_S_items, .inl (cI, 100, .inl S_items))]) (ws' := [(q_t, .inr (6, [.ref q_t_theRow, .ref q_t_pairs, .ref q_t_latestStrings, .ref q_t_leapStrings, .ref q_t_theRing, .ref q_t_trial, .ref q_t_sheets, .int t_moves, .int u12])), (q_t_sheets, .inl (cO, 4, .inr (.inr (.inr (.inr t_sheets))))), (q_S, .inr (4, [.ref q_S_items, .int S_lost, .int S_form, .int S_size])), (q_S_items, .inl (cI, 100, .inl S_items))]) hA hw [0] [1, 2, 3] [3, 0, 1, 2] rfl rfl rfl (by decide) rfl rfl (va_runV (As := [.int (5 : Int32)]) (rest := []) S (c_X6_find l D cI cZ cJ cO _ q_t q_t_theRow q_t_pairs q_t_latestStrings q_t_leapStrings q_t_theRing q_t_trial q_t_sheets N (5 : Int32) t_moves t_latestFinding r11 u12 h13) (cwV 1 hts gX6_sheet_X6_find rfl rfl rfl (by decide +kernel) ⟨Nat.le_of_ble_eq_true rfl, Nat.le_of_ble_eq_true rfl⟩) (pre_V hK hN hw [0] rfl rfl (C := RX6) (T := TX6) (N := 9) (ci := 6) (q0 := 0) rfl rfl) rfl rfl hl.1 rfl (lv_room (Nat.le_of_ble_eq_true rfl)) dX6_sheet_34 ⟨Nat.zero_le _, Nat.zero_le _⟩) (fun H locs hw => ?_)
        obtain ⟨rfl, rfl, rfl, rfl, rfl, rfl⟩ := pr6 (Option.some.inj hf)
        exact rt_i S hr hlk hw dX6_sheet_37
    · have hf := (if_neg c4).symm.trans hf
      refine lv_bipush (v := (-2 : Int32)) hx hb dX6_sheet_25 (by decide) ?_
      obtain ⟨rfl, rfl, rfl, rfl, rfl, rfl⟩ := pr6 (Option.some.inj hf)
      exact rt_i S hr hlk hw dX6_sheet_27

def f_X6_lose_n (_ : Nat) (p1 : Int32) (t_sheets : (Nat → Option Nat)) : Option (Int32) :=
  (some (-2 : Int32))

set_option maxHeartbeats 4000000 in
set_option maxRecDepth 100000 in
theorem c_X6_lose_n (l : Launch) (D : va_G) (cI cZ cJ cO : ClassId) (sz : Nat) (q_t q_t_theRow q_t_pairs q_t_latestStrings q_t_leapStrings q_t_theRing q_t_trial q_t_sheets : Nat) (N : Nat) (p1 : Int32) (t_moves : Int32) (t_latestFinding : Int32) (t_sheets : (Nat → Option Nat)) (r : Int32) (hs0 : shOf p1 t_sheets = none) (hf : f_X6_lose_n N p1 t_sheets = some r) : Met l yX6_lose wsX6_lose ({ frames := 1, cells := 0, slots := 0, locals := 21 }) (PreC D (TY cI cZ cJ cO) [.ref q_t, .int p1] [(q_t, .inr (6, [.ref q_t_theRow, .ref q_t_pairs, .ref q_t_latestStrings, .ref q_t_leapStrings, .ref q_t_theRing, .ref q_t_trial, .ref q_t_sheets, .int t_moves, .int t_latestFinding])), (q_t_sheets, .inl (cO, 4, .inr (.inr (.inr (.inr t_sheets)))))] sz) (QcI D [(q_t, .inr (6, [.ref q_t_theRow, .ref q_t_pairs, .ref q_t_latestStrings, .ref q_t_leapStrings, .ref q_t_theRing, .ref q_t_trial, .ref q_t_sheets, .int t_moves, .int t_latestFinding])), (q_t_sheets, .inl (cO, 4, .inr (.inr (.inr (.inr t_sheets)))))] (va_A [(q_t, .inr (6, [.ref q_t_theRow, .ref q_t_pairs, .ref q_t_latestStrings, .ref q_t_leapStrings, .ref q_t_theRing, .ref q_t_trial, .ref q_t_sheets, .int t_moves, .int t_latestFinding])), (q_t_sheets, .inl (cO, 4, .inr (.inr (.inr (.inr t_sheets)))))] sz) r) 0 0 (va_A [(q_t, .inr (6, [.ref q_t_theRow, .ref q_t_pairs, .ref q_t_latestStrings, .ref q_t_leapStrings, .ref q_t_theRing, .ref q_t_trial, .ref q_t_sheets, .int t_moves, .int t_latestFinding])), (q_t_sheets, .inl (cO, 4, .inr (.inr (.inr (.inr t_sheets)))))] sz) := by
  refine ctr (cc := cX6_lose) (maxL := 3) (ret := (some .int)) (by decide) rfl (Nat.le_of_ble_eq_true rfl) ?_
  intro p e s m below meth c S hr hlk hnm hK hN hsz hA hw ls hl
  generalize va_A [(q_t, .inr (6, [.ref q_t_theRow, .ref q_t_pairs, .ref q_t_latestStrings, .ref q_t_leapStrings, .ref q_t_theRing, .ref q_t_trial, .ref q_t_sheets, .int t_moves, .int t_latestFinding])), (q_t_sheets, .inl (cO, 4, .inr (.inr (.inr (.inr t_sheets)))))] sz = A at hA hw ⊢
  have S : CallFix p m c cX6_lose 3 s ([.ref q_t, .int p1] : List Value).toArray wsX6_lose RX6 := S
  have hx := S.1
  have hb := S.2.1
  have hts := S.2.2.2.2
  have hl : lv_has ls 3 [(0, .ref q_t), (1, .int p1)] := hl
  unfold f_X6_lose_n at hf
  refine lv_aload_n hx hb dX6_lose_0 rfl (lv_at hl 0 rfl) ?_
  refine lv_iload_n hx hb dX6_lose_1 rfl (lv_at hl 1 rfl) ?_
  refine cl_q (wr := []) (ws' := [(q_t, .inr (6, [.ref q_t_theRow, .ref q_t_pairs, .ref q_t_latestStrings, .ref q_t_leapStrings, .ref q_t_theRing, .ref q_t_trial, .ref q_t_sheets, .int t_moves, .int t_latestFinding])), (q_t_sheets, .inl (cO, 4, .inr (.inr (.inr (.inr t_sheets)))))]) hA hw [0, 1] [] [0, 1] rfl rfl rfl (by decide) rfl rfl (va_runV (As := [.int p1]) (rest := []) S (c_X6_sheetOf l D cI cZ cJ cO _ q_t_theRow q_t_pairs q_t_latestStrings q_t_leapStrings q_t_theRing q_t_trial q_t_sheets t_moves t_latestFinding q_t t_sheets p1) (cwV 1 hts gX6_lose_X6_sheetOf rfl rfl rfl (by decide +kernel) ⟨Nat.le_of_ble_eq_true rfl, Nat.le_of_ble_eq_true rfl⟩) (pre_V hK hN hw [0, 1] rfl rfl (C := RX6) (T := TX6) (N := 9) (ci := 6) (q0 := 0) rfl rfl) rfl rfl hl.1 rfl (lv_room (Nat.le_of_ble_eq_true rfl)) dX6_lose_2 ⟨Nat.zero_le _, Nat.zero_le _⟩) (fun H locs hw => ?_)
  rw [hs0]
  refine W.eq (g2 := F0 m 5 ls [.null]) rfl ?_
  refine lv_astore_nN (lv' := [(2, .null), (0, .ref q_t), (1, .int p1)]) hx hb dX6_lose_5 rfl hl (by decide) rfl (fun ls hl => ?_)
  refine lv_aload_nN hx hb dX6_lose_6 rfl (lv_at hl 0 rfl) ?_
  refine lv_ifnonnullN hx hb dX6_lose_7 ?_
  refine lv_bipush (v := (-2 : Int32)) hx hb dX6_lose_10 (by decide) ?_
  obtain rfl := Option.some.inj hf
  exact rt_i S hr hlk hw dX6_lose_12

def f_X6_lose_S (N : Nat) (p1 : Int32) (t_latestFinding : Int32) (t_sheets : (Nat → Option Nat)) (S_lost : Int32) (S_size : Int32) : Option (Int32 × Int32 × Int32) :=
  (if S_lost = (0 : Int32) then (some (S_size, t_latestFinding, (1 : Int32))) else (bd2 (f_X6_find N (1 : Int32) t_latestFinding) (fun r2 u3 => (some (r2, u3, S_lost)))))

set_option maxHeartbeats 4000000 in
set_option maxRecDepth 100000 in
theorem c_X6_lose_S (l : Launch) (D : va_G) (cI cZ cJ cO : ClassId) (sz : Nat) (q_t q_t_theRow q_t_pairs q_t_latestStrings q_t_leapStrings q_t_theRing q_t_trial q_t_sheets q_S q_S_items : Nat) (N : Nat) (p1 : Int32) (t_moves : Int32) (t_latestFinding : Int32) (t_sheets : (Nat → Option Nat)) (S_lost : Int32) (S_form : Int32) (S_size : Int32) (r : Int32) (o_t_latestFinding : Int32) (o_S_lost : Int32) (hs0 : shOf p1 t_sheets = some q_S) (hf : f_X6_lose_S N p1 t_latestFinding t_sheets S_lost S_size = some (r, o_t_latestFinding, o_S_lost)) : Met l yX6_lose wsX6_lose ({ frames := 1, cells := 0, slots := 0, locals := 21 }) (PreC D (TY cI cZ cJ cO) [.ref q_t, .int p1] [(q_t, .inr (6, [.ref q_t_theRow, .ref q_t_pairs, .ref q_t_latestStrings, .ref q_t_leapStrings, .ref q_t_theRing, .ref q_t_trial, .ref q_t_sheets, .int t_moves, .int t_latestFinding])), (q_t_sheets, .inl (cO, 4, .inr (.inr (.inr (.inr t_sheets))))), (q_S, .inr (4, [.ref q_S_items, .int S_lost, .int S_form, .int S_size]))] sz) (QcI D [(q_t, .inr (6, [.ref q_t_theRow, .ref q_t_pairs, .ref q_t_latestStrings, .ref q_t_leapStrings, .ref q_t_theRing, .ref q_t_trial, .ref q_t_sheets, .int t_moves, .int o_t_latestFinding])), (q_t_sheets, .inl (cO, 4, .inr (.inr (.inr (.inr t_sheets))))), (q_S, .inr (4, [.ref q_S_items, .int o_S_lost, .int S_form, .int S_size]))] (va_A [(q_t, .inr (6, [.ref q_t_theRow, .ref q_t_pairs, .ref q_t_latestStrings, .ref q_t_leapStrings, .ref q_t_theRing, .ref q_t_trial, .ref q_t_sheets, .int t_moves, .int t_latestFinding])), (q_t_sheets, .inl (cO, 4, .inr (.inr (.inr (.inr t_sheets))))), (q_S, .inr (4, [.ref q_S_items, .int S_lost, .int S_form, .int S_size]))] sz) r) 0 0 (va_A [(q_t, .inr (6, [.ref q_t_theRow, .ref q_t_pairs, .ref q_t_latestStrings, .ref q_t_leapStrings, .ref q_t_theRing, .ref q_t_trial, .ref q_t_sheets, .int t_moves, .int t_latestFinding])), (q_t_sheets, .inl (cO, 4, .inr (.inr (.inr (.inr t_sheets))))), (q_S, .inr (4, [.ref q_S_items, .int S_lost, .int S_form, .int S_size]))] sz) := by
  refine ctr (cc := cX6_lose) (maxL := 3) (ret := (some .int)) (by decide) rfl (Nat.le_of_ble_eq_true rfl) ?_
  intro p e s m below meth c S hr hlk hnm hK hN hsz hA hw ls hl
  generalize va_A [(q_t, .inr (6, [.ref q_t_theRow, .ref q_t_pairs, .ref q_t_latestStrings, .ref q_t_leapStrings, .ref q_t_theRing, .ref q_t_trial, .ref q_t_sheets, .int t_moves, .int t_latestFinding])), (q_t_sheets, .inl (cO, 4, .inr (.inr (.inr (.inr t_sheets))))), (q_S, .inr (4, [.ref q_S_items, .int S_lost, .int S_form, .int S_size]))] sz = A at hA hw ⊢
  have S : CallFix p m c cX6_lose 3 s ([.ref q_t, .int p1] : List Value).toArray wsX6_lose RX6 := S
  have hx := S.1
  have hb := S.2.1
  have hts := S.2.2.2.2
  have hl : lv_has ls 3 [(0, .ref q_t), (1, .int p1)] := hl
  have hinX4 : ∀ w ∈ u_ws RX4 TX4 4, w ∈ wsX6_lose := by decide +kernel
  unfold f_X6_lose_S at hf
  refine lv_aload_n hx hb dX6_lose_0 rfl (lv_at hl 0 rfl) ?_
  refine lv_iload_n hx hb dX6_lose_1 rfl (lv_at hl 1 rfl) ?_
  refine cl_q (wr := [(q_S, .inr (4, [.ref q_S_items, .int S_lost, .int S_form, .int S_size]))]) (ws' := [(q_t, .inr (6, [.ref q_t_theRow, .ref q_t_pairs, .ref q_t_latestStrings, .ref q_t_leapStrings, .ref q_t_theRing, .ref q_t_trial, .ref q_t_sheets, .int t_moves, .int t_latestFinding])), (q_t_sheets, .inl (cO, 4, .inr (.inr (.inr (.inr t_sheets))))), (q_S, .inr (4, [.ref q_S_items, .int S_lost, .int S_form, .int S_size]))]) hA hw [0, 1] [2] [1, 2, 0] rfl rfl rfl (by decide) rfl rfl (va_runV (As := [.int p1]) (rest := []) S (c_X6_sheetOf l D cI cZ cJ cO _ q_t_theRow q_t_pairs q_t_latestStrings q_t_leapStrings q_t_theRing q_t_trial q_t_sheets t_moves t_latestFinding q_t t_sheets p1) (cwV 1 hts gX6_lose_X6_sheetOf rfl rfl rfl (by decide +kernel) ⟨Nat.le_of_ble_eq_true rfl, Nat.le_of_ble_eq_true rfl⟩) (pre_V hK hN hw [0, 1] rfl rfl (C := RX6) (T := TX6) (N := 9) (ci := 6) (q0 := 0) rfl rfl) rfl rfl hl.1 rfl (lv_room (Nat.le_of_ble_eq_true rfl)) dX6_lose_2 ⟨Nat.zero_le _, Nat.zero_le _⟩) (fun H locs hw => ?_)
  rw [hs0]
  refine W.eq (g2 := F0 m 5 ls [.ref q_S]) rfl ?_
  refine lv_astore_n (lv' := [(2, .ref q_S), (0, .ref q_t), (1, .int p1)]) hx hb dX6_lose_5 rfl hl (by decide) rfl (fun ls hl => ?_)
  refine lv_aload_n hx hb dX6_lose_6 rfl (lv_at hl 0 rfl) ?_
  refine lv_ifnonnull (tgt := 13) hx hb dX6_lose_7 (by decide) ?_
  refine lv_aload_n hx hb dX6_lose_13 rfl (lv_at hl 0 rfl) ?_
  refine g_getN (ci := 4) (C := RX4) (T := TX4) (N := 4) S hinX4 hK hN hw 2 1 nw_X6_189 dX6_lose_14 rfl rfl (by decide) rfl ?_
  refine lv_if_eq (tgt := 26) hx hb dX6_lose_17 (by decide) (fun c1 => ?_) (fun c1 => ?_)
  · have hf := (if_pos c1).symm.trans hf
    refine lv_aload_n hx hb dX6_lose_26 rfl (lv_at hl 0 rfl) ?_
    refine lv_iconst (v := (1 : Int32)) hx hb dX6_lose_27 (by decide) ?_
    refine g_putN (ci := 4) (C := RX4) (T := TX4) (N := 4) (ws' := [(q_t, .inr (6, [.ref q_t_theRow, .ref q_t_pairs, .ref q_t_latestStrings, .ref q_t_leapStrings, .ref q_t_theRing, .ref q_t_trial, .ref q_t_sheets, .int t_moves, .int t_latestFinding])), (q_t_sheets, .inl (cO, 4, .inr (.inr (.inr (.inr t_sheets))))), (q_S, .inr (4, [.ref q_S_items, .int (1 : Int32), .int S_form, .int S_size]))]) S hinX4 tyX4 tyX4_ok nmX4 hK hN hw 2 1 nw_X6_189 dX6_lose_28 rfl rfl (by decide) rfl rfl rfl (Nat.le_of_ble_eq_true rfl) rfl (fun H locs hw => ?_)
    refine lv_aload_n hx hb dX6_lose_31 rfl (lv_at hl 0 rfl) ?_
    refine g_getN (ci := 4) (C := RX4) (T := TX4) (N := 4) S hinX4 hK hN hw 2 3 nw_X6_193 dX6_lose_32 rfl rfl (by decide) rfl ?_
    obtain ⟨rfl, rfl, rfl⟩ := pr3 (Option.some.inj hf)
    exact rt_i S hr hlk hw dX6_lose_35
  · have hf := (if_neg c1).symm.trans hf
    refine lv_aload_n hx hb dX6_lose_20 rfl (lv_at hl 1 rfl) ?_
    refine lv_iconst (v := (1 : Int32)) hx hb dX6_lose_21 (by decide) ?_
    obtain ⟨r2, u3, h4, hf⟩ := bd2_some hf
    refine cl_i (wr := [(q_t_sheets, .inl (cO, 4, .inr (.inr (.inr (.inr t_sheets))))), (q_S, .inr (4, [.ref q_S_items, .int S_lost, .int S_form, .int S_size]))]) (ws' := [(q_t, .inr (6, [.ref q_t_theRow, .ref q_t_pairs, .ref q_t_latestStrings, .ref q_t_leapStrings, .ref q_t_theRing, .ref q_t_trial, .ref q_t_sheets, .int t_moves, .int u3])), (q_t_sheets, .inl (cO, 4, .inr (.inr (.inr (.inr t_sheets))))), (q_S, .inr (4, [.ref q_S_items, .int S_lost, .int S_form, .int S_size]))]) hA hw [0] [1, 2] [2, 0, 1] rfl rfl rfl (by decide) rfl rfl (va_runV (As := [.int (1 : Int32)]) (rest := []) S (c_X6_find l D cI cZ cJ cO _ q_t q_t_theRow q_t_pairs q_t_latestStrings q_t_leapStrings q_t_theRing q_t_trial q_t_sheets N (1 : Int32) t_moves t_latestFinding r2 u3 h4) (cwV 1 hts gX6_lose_X6_find rfl rfl rfl (by decide +kernel) ⟨Nat.le_of_ble_eq_true rfl, Nat.le_of_ble_eq_true rfl⟩) (pre_V hK hN hw [0] rfl rfl (C := RX6) (T := TX6) (N := 9) (ci := 6) (q0 := 0) rfl rfl) rfl rfl hl.1 rfl (lv_room (Nat.le_of_ble_eq_true rfl)) dX6_lose_22 ⟨Nat.zero_le _, Nat.zero_le _⟩) (fun H locs hw => ?_)
    obtain ⟨rfl, rfl, rfl⟩ := pr3 (Option.some.inj hf)
    exact rt_i S hr hlk hw dX6_lose_25

def f_X6_put_n (_ : Nat) (p1 : Int32) (p2 : Int32) (p3 : Int32) (p4 : Int32) (t_sheets : (Nat → Option Nat)) : Option (Int32) :=
  (some (-2 : Int32))

set_option maxHeartbeats 4000000 in
set_option maxRecDepth 100000 in
theorem c_X6_put_n (l : Launch) (D : va_G) (cI cZ cJ cO : ClassId) (sz : Nat) (q_t q_t_theRow q_t_pairs q_t_latestStrings q_t_leapStrings q_t_theRing q_t_trial q_t_sheets : Nat) (N : Nat) (p1 : Int32) (p2 : Int32) (p3 : Int32) (p4 : Int32) (t_moves : Int32) (t_latestFinding : Int32) (t_sheets : (Nat → Option Nat)) (r : Int32) (hs0 : shOf p1 t_sheets = none) (hf : f_X6_put_n N p1 p2 p3 p4 t_sheets = some r) : Met l yX6_put wsX6_put ({ frames := 1, cells := 0, slots := 0, locals := 21 }) (PreC D (TY cI cZ cJ cO) [.ref q_t, .int p1, .int p2, .int p3, .int p4] [(q_t, .inr (6, [.ref q_t_theRow, .ref q_t_pairs, .ref q_t_latestStrings, .ref q_t_leapStrings, .ref q_t_theRing, .ref q_t_trial, .ref q_t_sheets, .int t_moves, .int t_latestFinding])), (q_t_sheets, .inl (cO, 4, .inr (.inr (.inr (.inr t_sheets)))))] sz) (QcI D [(q_t, .inr (6, [.ref q_t_theRow, .ref q_t_pairs, .ref q_t_latestStrings, .ref q_t_leapStrings, .ref q_t_theRing, .ref q_t_trial, .ref q_t_sheets, .int t_moves, .int t_latestFinding])), (q_t_sheets, .inl (cO, 4, .inr (.inr (.inr (.inr t_sheets)))))] (va_A [(q_t, .inr (6, [.ref q_t_theRow, .ref q_t_pairs, .ref q_t_latestStrings, .ref q_t_leapStrings, .ref q_t_theRing, .ref q_t_trial, .ref q_t_sheets, .int t_moves, .int t_latestFinding])), (q_t_sheets, .inl (cO, 4, .inr (.inr (.inr (.inr t_sheets)))))] sz) r) 0 0 (va_A [(q_t, .inr (6, [.ref q_t_theRow, .ref q_t_pairs, .ref q_t_latestStrings, .ref q_t_leapStrings, .ref q_t_theRing, .ref q_t_trial, .ref q_t_sheets, .int t_moves, .int t_latestFinding])), (q_t_sheets, .inl (cO, 4, .inr (.inr (.inr (.inr t_sheets)))))] sz) := by
  refine ctr (cc := cX6_put) (maxL := 7) (ret := (some .int)) (by decide) rfl (Nat.le_of_ble_eq_true rfl) ?_
  intro p e s m below meth c S hr hlk hnm hK hN hsz hA hw ls hl
  generalize va_A [(q_t, .inr (6, [.ref q_t_theRow, .ref q_t_pairs, .ref q_t_latestStrings, .ref q_t_leapStrings, .ref q_t_theRing, .ref q_t_trial, .ref q_t_sheets, .int t_moves, .int t_latestFinding])), (q_t_sheets, .inl (cO, 4, .inr (.inr (.inr (.inr t_sheets)))))] sz = A at hA hw ⊢
  have S : CallFix p m c cX6_put 7 s ([.ref q_t, .int p1, .int p2, .int p3, .int p4] : List Value).toArray wsX6_put RX6 := S
  have hx := S.1
  have hb := S.2.1
  have hts := S.2.2.2.2
  have hl : lv_has ls 7 [(0, .ref q_t), (1, .int p1), (2, .int p2), (3, .int p3), (4, .int p4)] := hl
  unfold f_X6_put_n at hf
  refine lv_aload_n hx hb dX6_put_0 rfl (lv_at hl 0 rfl) ?_
  refine lv_iload_n hx hb dX6_put_1 rfl (lv_at hl 1 rfl) ?_
  refine cl_q (wr := []) (ws' := [(q_t, .inr (6, [.ref q_t_theRow, .ref q_t_pairs, .ref q_t_latestStrings, .ref q_t_leapStrings, .ref q_t_theRing, .ref q_t_trial, .ref q_t_sheets, .int t_moves, .int t_latestFinding])), (q_t_sheets, .inl (cO, 4, .inr (.inr (.inr (.inr t_sheets)))))]) hA hw [0, 1] [] [0, 1] rfl rfl rfl (by decide) rfl rfl (va_runV (As := [.int p1]) (rest := []) S (c_X6_sheetOf l D cI cZ cJ cO _ q_t_theRow q_t_pairs q_t_latestStrings q_t_leapStrings q_t_theRing q_t_trial q_t_sheets t_moves t_latestFinding q_t t_sheets p1) (cwV 1 hts gX6_put_X6_sheetOf rfl rfl rfl (by decide +kernel) ⟨Nat.le_of_ble_eq_true rfl, Nat.le_of_ble_eq_true rfl⟩) (pre_V hK hN hw [0, 1] rfl rfl (C := RX6) (T := TX6) (N := 9) (ci := 6) (q0 := 0) rfl rfl) rfl rfl hl.1 rfl (lv_room (Nat.le_of_ble_eq_true rfl)) dX6_put_2 ⟨Nat.zero_le _, Nat.zero_le _⟩) (fun H locs hw => ?_)
  rw [hs0]
  refine W.eq (g2 := F0 m 5 ls [.null]) rfl ?_
  refine lv_astoreN (lv' := [(5, .null), (0, .ref q_t), (1, .int p1), (2, .int p2), (3, .int p3), (4, .int p4)]) hx hb dX6_put_5 hl (by decide) rfl (fun ls hl => ?_)
  refine lv_aloadN hx hb dX6_put_7 (lv_at hl 0 rfl) ?_
  refine lv_ifnullN (tgt := 19) hx hb dX6_put_9 (by decide) ?_
  refine lv_bipush (v := (-2 : Int32)) hx hb dX6_put_19 (by decide) ?_
  obtain rfl := Option.some.inj hf
  exact rt_i S hr hlk hw dX6_put_21

def f_X6_put_S (N : Nat) (p1 : Int32) (p2 : Int32) (p3 : Int32) (p4 : Int32) (t_latestFinding : Int32) (t_sheets : (Nat → Option Nat)) (S_lost : Int32) (S_form : Int32) (S_size : Int32) (S_items : (Nat → Int32)) : Option (Int32 × Int32 × (Nat → Int32)) :=
  (bd1 (f_X6_isForm N p2) (fun r1 => (if r1 = (0 : Int32) then (some ((-2 : Int32), t_latestFinding, S_items)) else (bd1 (f_X4_findingAt N p2 p3 S_lost S_form S_size) (fun r4 => (if r4 = (0 : Int32) then (bd1 (f_X4_place N p3 p4 S_form S_size S_items) (fun u7 => (some ((1 : Int32), t_latestFinding, u7)))) else (bd2 (f_X6_find N r4 t_latestFinding) (fun r9 u10 => (some (r9, u10, S_items))))))))))

set_option maxHeartbeats 4000000 in
set_option maxRecDepth 100000 in
theorem c_X6_put_S (l : Launch) (D : va_G) (cI cZ cJ cO : ClassId) (sz : Nat) (q_t q_t_theRow q_t_pairs q_t_latestStrings q_t_leapStrings q_t_theRing q_t_trial q_t_sheets q_S q_S_items : Nat) (N : Nat) (p1 : Int32) (p2 : Int32) (p3 : Int32) (p4 : Int32) (t_moves : Int32) (t_latestFinding : Int32) (t_sheets : (Nat → Option Nat)) (S_lost : Int32) (S_form : Int32) (S_size : Int32) (S_items : (Nat → Int32)) (r : Int32) (o_t_latestFinding : Int32) (o_S_items : (Nat → Int32)) (hs0 : shOf p1 t_sheets = some q_S) (hf : f_X6_put_S N p1 p2 p3 p4 t_latestFinding t_sheets S_lost S_form S_size S_items = some (r, o_t_latestFinding, o_S_items)) : Met l yX6_put wsX6_put ({ frames := 2, cells := 0, slots := 0, locals := 43 }) (PreC D (TY cI cZ cJ cO) [.ref q_t, .int p1, .int p2, .int p3, .int p4] [(q_t, .inr (6, [.ref q_t_theRow, .ref q_t_pairs, .ref q_t_latestStrings, .ref q_t_leapStrings, .ref q_t_theRing, .ref q_t_trial, .ref q_t_sheets, .int t_moves, .int t_latestFinding])), (q_t_sheets, .inl (cO, 4, .inr (.inr (.inr (.inr t_sheets))))), (q_S, .inr (4, [.ref q_S_items, .int S_lost, .int S_form, .int S_size])), (q_S_items, .inl (cI, 100, .inl S_items))] sz) (QcI D [(q_t, .inr (6, [.ref q_t_theRow, .ref q_t_pairs, .ref q_t_latestStrings, .ref q_t_leapStrings, .ref q_t_theRing, .ref q_t_trial, .ref q_t_sheets, .int t_moves, .int o_t_latestFinding])), (q_t_sheets, .inl (cO, 4, .inr (.inr (.inr (.inr t_sheets))))), (q_S, .inr (4, [.ref q_S_items, .int S_lost, .int S_form, .int S_size])), (q_S_items, .inl (cI, 100, .inl o_S_items))] (va_A [(q_t, .inr (6, [.ref q_t_theRow, .ref q_t_pairs, .ref q_t_latestStrings, .ref q_t_leapStrings, .ref q_t_theRing, .ref q_t_trial, .ref q_t_sheets, .int t_moves, .int t_latestFinding])), (q_t_sheets, .inl (cO, 4, .inr (.inr (.inr (.inr t_sheets))))), (q_S, .inr (4, [.ref q_S_items, .int S_lost, .int S_form, .int S_size])), (q_S_items, .inl (cI, 100, .inl S_items))] sz) r) 0 0 (va_A [(q_t, .inr (6, [.ref q_t_theRow, .ref q_t_pairs, .ref q_t_latestStrings, .ref q_t_leapStrings, .ref q_t_theRing, .ref q_t_trial, .ref q_t_sheets, .int t_moves, .int t_latestFinding])), (q_t_sheets, .inl (cO, 4, .inr (.inr (.inr (.inr t_sheets))))), (q_S, .inr (4, [.ref q_S_items, .int S_lost, .int S_form, .int S_size])), (q_S_items, .inl (cI, 100, .inl S_items))] sz) := by
  refine ctr (cc := cX6_put) (maxL := 7) (ret := (some .int)) (by decide) rfl (Nat.le_of_ble_eq_true rfl) ?_
  intro p e s m below meth c S hr hlk hnm hK hN hsz hA hw ls hl
  generalize va_A [(q_t, .inr (6, [.ref q_t_theRow, .ref q_t_pairs, .ref q_t_latestStrings, .ref q_t_leapStrings, .ref q_t_theRing, .ref q_t_trial, .ref q_t_sheets, .int t_moves, .int t_latestFinding])), (q_t_sheets, .inl (cO, 4, .inr (.inr (.inr (.inr t_sheets))))), (q_S, .inr (4, [.ref q_S_items, .int S_lost, .int S_form, .int S_size])), (q_S_items, .inl (cI, 100, .inl S_items))] sz = A at hA hw ⊢
  have S : CallFix p m c cX6_put 7 s ([.ref q_t, .int p1, .int p2, .int p3, .int p4] : List Value).toArray wsX6_put RX6 := S
  have hx := S.1
  have hb := S.2.1
  have hts := S.2.2.2.2
  have hl : lv_has ls 7 [(0, .ref q_t), (1, .int p1), (2, .int p2), (3, .int p3), (4, .int p4)] := hl
  unfold f_X6_put_S at hf
  refine lv_aload_n hx hb dX6_put_0 rfl (lv_at hl 0 rfl) ?_
  refine lv_iload_n hx hb dX6_put_1 rfl (lv_at hl 1 rfl) ?_
  refine cl_q (wr := [(q_S, .inr (4, [.ref q_S_items, .int S_lost, .int S_form, .int S_size])), (q_S_items, .inl (cI, 100, .inl S_items))]) (ws' := [(q_t, .inr (6, [.ref q_t_theRow, .ref q_t_pairs, .ref q_t_latestStrings, .ref q_t_leapStrings, .ref q_t_theRing, .ref q_t_trial, .ref q_t_sheets, .int t_moves, .int t_latestFinding])), (q_t_sheets, .inl (cO, 4, .inr (.inr (.inr (.inr t_sheets))))), (q_S, .inr (4, [.ref q_S_items, .int S_lost, .int S_form, .int S_size])), (q_S_items, .inl (cI, 100, .inl S_items))]) hA hw [0, 1] [2, 3] [2, 3, 0, 1] rfl rfl rfl (by decide) rfl rfl (va_runV (As := [.int p1]) (rest := []) S (c_X6_sheetOf l D cI cZ cJ cO _ q_t_theRow q_t_pairs q_t_latestStrings q_t_leapStrings q_t_theRing q_t_trial q_t_sheets t_moves t_latestFinding q_t t_sheets p1) (cwV 1 hts gX6_put_X6_sheetOf rfl rfl rfl (by decide +kernel) ⟨Nat.le_of_ble_eq_true rfl, Nat.le_of_ble_eq_true rfl⟩) (pre_V hK hN hw [0, 1] rfl rfl (C := RX6) (T := TX6) (N := 9) (ci := 6) (q0 := 0) rfl rfl) rfl rfl hl.1 rfl (lv_room (Nat.le_of_ble_eq_true rfl)) dX6_put_2 ⟨Nat.zero_le _, Nat.zero_le _⟩) (fun H locs hw => ?_)
  rw [hs0]
  refine W.eq (g2 := F0 m 5 ls [.ref q_S]) rfl ?_
  refine lv_astore (lv' := [(5, .ref q_S), (0, .ref q_t), (1, .int p1), (2, .int p2), (3, .int p3), (4, .int p4)]) hx hb dX6_put_5 hl (by decide) rfl (fun ls hl => ?_)
  refine lv_aload hx hb dX6_put_7 (lv_at hl 0 rfl) ?_
  refine lv_ifnull hx hb dX6_put_9 ?_
  refine lv_iload_n hx hb dX6_put_12 rfl (lv_at hl 3 rfl) ?_
  obtain ⟨r1, h2, hf⟩ := bd1_some hf
  refine cl_i (wr := [(q_t, .inr (6, [.ref q_t_theRow, .ref q_t_pairs, .ref q_t_latestStrings, .ref q_t_leapStrings, .ref q_t_theRing, .ref q_t_trial, .ref q_t_sheets, .int t_moves, .int t_latestFinding])), (q_t_sheets, .inl (cO, 4, .inr (.inr (.inr (.inr t_sheets))))), (q_S, .inr (4, [.ref q_S_items, .int S_lost, .int S_form, .int S_size])), (q_S_items, .inl (cI, 100, .inl S_items))]) (ws' := [(q_t, .inr (6, [.ref q_t_theRow, .ref q_t_pairs, .ref q_t_latestStrings, .ref q_t_leapStrings, .ref q_t_theRing, .ref q_t_trial, .ref q_t_sheets, .int t_moves, .int t_latestFinding])), (q_t_sheets, .inl (cO, 4, .inr (.inr (.inr (.inr t_sheets))))), (q_S, .inr (4, [.ref q_S_items, .int S_lost, .int S_form, .int S_size])), (q_S_items, .inl (cI, 100, .inl S_items))]) hA hw [] [0, 1, 2, 3] [0, 1, 2, 3] rfl rfl rfl (by decide) rfl rfl (va_runS (As := [.int p2]) (rest := []) S (c_X6_isForm l D cI cZ cJ cO _ N p2 r1 h2) (va_cwS 1 hts gX6_put_X6_isForm rfl rfl rfl (by decide +kernel) ⟨Nat.le_of_ble_eq_true rfl, Nat.le_of_ble_eq_true rfl⟩) (pre_S hK hN hw [] rfl rfl) rfl rfl hl.1 rfl (lv_room (Nat.le_of_ble_eq_true rfl)) dX6_put_13 ⟨Nat.zero_le _, Nat.zero_le _⟩) (fun H locs hw => ?_)
  refine lv_if_ne (tgt := 22) hx hb dX6_put_16 (by decide) (fun c3 => ?_) (fun c3 => ?_)
  · have hf := (if_neg c3).symm.trans hf
    refine lv_aload hx hb dX6_put_22 (lv_at hl 0 rfl) ?_
    refine lv_iload_n hx hb dX6_put_24 rfl (lv_at hl 3 rfl) ?_
    refine lv_iload_n hx hb dX6_put_25 rfl (lv_at hl 4 rfl) ?_
    obtain ⟨r4, h5, hf⟩ := bd1_some hf
    refine cl_i (wr := [(q_t, .inr (6, [.ref q_t_theRow, .ref q_t_pairs, .ref q_t_latestStrings, .ref q_t_leapStrings, .ref q_t_theRing, .ref q_t_trial, .ref q_t_sheets, .int t_moves, .int t_latestFinding])), (q_t_sheets, .inl (cO, 4, .inr (.inr (.inr (.inr t_sheets))))), (q_S_items, .inl (cI, 100, .inl S_items))]) (ws' := [(q_t, .inr (6, [.ref q_t_theRow, .ref q_t_pairs, .ref q_t_latestStrings, .ref q_t_leapStrings, .ref q_t_theRing, .ref q_t_trial, .ref q_t_sheets, .int t_moves, .int t_latestFinding])), (q_t_sheets, .inl (cO, 4, .inr (.inr (.inr (.inr t_sheets))))), (q_S, .inr (4, [.ref q_S_items, .int S_lost, .int S_form, .int S_size])), (q_S_items, .inl (cI, 100, .inl S_items))]) hA hw [2] [0, 1, 3] [0, 1, 3, 2] rfl rfl rfl (by decide) rfl rfl (va_runV (As := [.int p2, .int p3]) (rest := []) S (c_X4_findingAt l D cI cZ cJ cO _ q_S q_S_items N p2 p3 S_lost S_form S_size r4 h5) (cwV 2 hts gX6_put_X4_findingAt rfl rfl rfl (by decide +kernel) ⟨Nat.le_of_ble_eq_true rfl, Nat.le_of_ble_eq_true rfl⟩) (pre_V hK hN hw [2] rfl rfl (C := RX4) (T := TX4) (N := 4) (ci := 4) (q0 := 0) rfl rfl) rfl rfl hl.1 rfl (lv_room (Nat.le_of_ble_eq_true rfl)) dX6_put_26 ⟨Nat.zero_le _, Nat.zero_le _⟩) (fun H locs hw => ?_)
    refine lv_istore (lv' := [(6, .int r4), (5, .ref q_S), (0, .ref q_t), (1, .int p1), (2, .int p2), (3, .int p3), (4, .int p4)]) hx hb dX6_put_29 hl (by decide) rfl (fun ls hl => ?_)
    refine lv_iload hx hb dX6_put_31 (lv_at hl 0 rfl) ?_
    refine lv_if_eq (tgt := 43) hx hb dX6_put_33 (by decide) (fun c6 => ?_) (fun c6 => ?_)
    · have hf := (if_pos c6).symm.trans hf
      refine lv_aload hx hb dX6_put_43 (lv_at hl 1 rfl) ?_
      refine lv_iload_n hx hb dX6_put_45 rfl (lv_at hl 5 rfl) ?_
      refine lv_iload hx hb dX6_put_46 (lv_at hl 6 rfl) ?_
      obtain ⟨u7, h8, hf⟩ := bd1_some hf
      refine cl_v (wr := [(q_t, .inr (6, [.ref q_t_theRow, .ref q_t_pairs, .ref q_t_latestStrings, .ref q_t_leapStrings, .ref q_t_theRing, .ref q_t_trial, .ref q_t_sheets, .int t_moves, .int t_latestFinding])), (q_t_sheets, .inl (cO, 4, .inr (.inr (.inr (.inr t_sheets)))))]) (ws' := [(q_t, .inr (6, [.ref q_t_theRow, .ref q_t_pairs, .ref q_t_latestStrings, .ref q_t_leapStrings, .ref q_t_theRing, .ref q_t_trial, .ref q_t_sheets, .int t_moves, .int t_latestFinding])), (q_t_sheets, .inl (cO, 4, .inr (.inr (.inr (.inr t_sheets))))), (q_S, .inr (4, [.ref q_S_items, .int S_lost, .int S_form, .int S_size])), (q_S_items, .inl (cI, 100, .inl u7))]) hA hw [2, 3] [0, 1] [0, 1, 2, 3] rfl rfl rfl (by decide) rfl rfl (va_runV (As := [.int p3, .int p4]) (rest := []) S (c_X4_place l D cI cZ cJ cO _ q_S q_S_items N p3 p4 S_lost S_form S_size S_items u7 h8) (cwV 2 hts gX6_put_X4_place rfl rfl rfl (by decide +kernel) ⟨Nat.le_of_ble_eq_true rfl, Nat.le_of_ble_eq_true rfl⟩) (pre_V hK hN hw [2, 3] rfl rfl (C := RX4) (T := TX4) (N := 4) (ci := 4) (q0 := 0) rfl rfl) rfl rfl hl.1 rfl (lv_room (Nat.le_of_ble_eq_true rfl)) dX6_put_48 ⟨Nat.zero_le _, Nat.zero_le _⟩) (fun H locs hw => ?_)
      refine lv_iconst (v := (1 : Int32)) hx hb dX6_put_51 (by decide) ?_
      obtain ⟨rfl, rfl, rfl⟩ := pr3 (Option.some.inj hf)
      exact rt_i S hr hlk hw dX6_put_52
    · have hf := (if_neg c6).symm.trans hf
      refine lv_aload_n hx hb dX6_put_36 rfl (lv_at hl 2 rfl) ?_
      refine lv_iload hx hb dX6_put_37 (lv_at hl 0 rfl) ?_
      obtain ⟨r9, u10, h11, hf⟩ := bd2_some hf
      refine cl_i (wr := [(q_t_sheets, .inl (cO, 4, .inr (.inr (.inr (.inr t_sheets))))), (q_S, .inr (4, [.ref q_S_items, .int S_lost, .int S_form, .int S_size])), (q_S_items, .inl (cI, 100, .inl S_items))]) (ws' := [(q_t, .inr (6, [.ref q_t_theRow, .ref q_t_pairs, .ref q_t_latestStrings, .ref q_t_leapStrings, .ref q_t_theRing, .ref q_t_trial, .ref q_t_sheets, .int t_moves, .int u10])), (q_t_sheets, .inl (cO, 4, .inr (.inr (.inr (.inr t_sheets))))), (q_S, .inr (4, [.ref q_S_items, .int S_lost, .int S_form, .int S_size])), (q_S_items, .inl (cI, 100, .inl S_items))]) hA hw [0] [1, 2, 3] [3, 0, 1, 2] rfl rfl rfl (by decide) rfl rfl (va_runV (As := [.int r4]) (rest := []) S (c_X6_find l D cI cZ cJ cO _ q_t q_t_theRow q_t_pairs q_t_latestStrings q_t_leapStrings q_t_theRing q_t_trial q_t_sheets N r4 t_moves t_latestFinding r9 u10 h11) (cwV 1 hts gX6_put_X6_find rfl rfl rfl (by decide +kernel) ⟨Nat.le_of_ble_eq_true rfl, Nat.le_of_ble_eq_true rfl⟩) (pre_V hK hN hw [0] rfl rfl (C := RX6) (T := TX6) (N := 9) (ci := 6) (q0 := 0) rfl rfl) rfl rfl hl.1 rfl (lv_room (Nat.le_of_ble_eq_true rfl)) dX6_put_39 ⟨Nat.zero_le _, Nat.zero_le _⟩) (fun H locs hw => ?_)
      obtain ⟨rfl, rfl, rfl⟩ := pr3 (Option.some.inj hf)
      exact rt_i S hr hlk hw dX6_put_42
  · have hf := (if_pos c3).symm.trans hf
    refine lv_bipush (v := (-2 : Int32)) hx hb dX6_put_19 (by decide) ?_
    obtain ⟨rfl, rfl, rfl⟩ := pr3 (Option.some.inj hf)
    exact rt_i S hr hlk hw dX6_put_21

def f_X6_get_n (_ : Nat) (p1 : Int32) (p2 : Int32) (p3 : Int32) (t_sheets : (Nat → Option Nat)) : Option (Int32) :=
  (some (-2147483648 : Int32))

set_option maxHeartbeats 4000000 in
set_option maxRecDepth 100000 in
theorem c_X6_get_n (l : Launch) (D : va_G) (cI cZ cJ cO : ClassId) (sz : Nat) (q_t q_t_theRow q_t_pairs q_t_latestStrings q_t_leapStrings q_t_theRing q_t_trial q_t_sheets : Nat) (N : Nat) (p1 : Int32) (p2 : Int32) (p3 : Int32) (t_moves : Int32) (t_latestFinding : Int32) (t_sheets : (Nat → Option Nat)) (r : Int32) (hs0 : shOf p1 t_sheets = none) (hf : f_X6_get_n N p1 p2 p3 t_sheets = some r) : Met l yX6_get wsX6_get ({ frames := 1, cells := 0, slots := 0, locals := 21 }) (PreC D (TY cI cZ cJ cO) [.ref q_t, .int p1, .int p2, .int p3] [(q_t, .inr (6, [.ref q_t_theRow, .ref q_t_pairs, .ref q_t_latestStrings, .ref q_t_leapStrings, .ref q_t_theRing, .ref q_t_trial, .ref q_t_sheets, .int t_moves, .int t_latestFinding])), (q_t_sheets, .inl (cO, 4, .inr (.inr (.inr (.inr t_sheets)))))] sz) (QcI D [(q_t, .inr (6, [.ref q_t_theRow, .ref q_t_pairs, .ref q_t_latestStrings, .ref q_t_leapStrings, .ref q_t_theRing, .ref q_t_trial, .ref q_t_sheets, .int t_moves, .int t_latestFinding])), (q_t_sheets, .inl (cO, 4, .inr (.inr (.inr (.inr t_sheets)))))] (va_A [(q_t, .inr (6, [.ref q_t_theRow, .ref q_t_pairs, .ref q_t_latestStrings, .ref q_t_leapStrings, .ref q_t_theRing, .ref q_t_trial, .ref q_t_sheets, .int t_moves, .int t_latestFinding])), (q_t_sheets, .inl (cO, 4, .inr (.inr (.inr (.inr t_sheets)))))] sz) r) 0 0 (va_A [(q_t, .inr (6, [.ref q_t_theRow, .ref q_t_pairs, .ref q_t_latestStrings, .ref q_t_leapStrings, .ref q_t_theRing, .ref q_t_trial, .ref q_t_sheets, .int t_moves, .int t_latestFinding])), (q_t_sheets, .inl (cO, 4, .inr (.inr (.inr (.inr t_sheets)))))] sz) := by
  refine ctr (cc := cX6_get) (maxL := 6) (ret := (some .int)) (by decide) rfl (Nat.le_of_ble_eq_true rfl) ?_
  intro p e s m below meth c S hr hlk hnm hK hN hsz hA hw ls hl
  generalize va_A [(q_t, .inr (6, [.ref q_t_theRow, .ref q_t_pairs, .ref q_t_latestStrings, .ref q_t_leapStrings, .ref q_t_theRing, .ref q_t_trial, .ref q_t_sheets, .int t_moves, .int t_latestFinding])), (q_t_sheets, .inl (cO, 4, .inr (.inr (.inr (.inr t_sheets)))))] sz = A at hA hw ⊢
  have S : CallFix p m c cX6_get 6 s ([.ref q_t, .int p1, .int p2, .int p3] : List Value).toArray wsX6_get RX6 := S
  have hx := S.1
  have hb := S.2.1
  have hts := S.2.2.2.2
  have hl : lv_has ls 6 [(0, .ref q_t), (1, .int p1), (2, .int p2), (3, .int p3)] := hl
  unfold f_X6_get_n at hf
  refine lv_aload_n hx hb dX6_get_0 rfl (lv_at hl 0 rfl) ?_
  refine lv_iload_n hx hb dX6_get_1 rfl (lv_at hl 1 rfl) ?_
  refine cl_q (wr := []) (ws' := [(q_t, .inr (6, [.ref q_t_theRow, .ref q_t_pairs, .ref q_t_latestStrings, .ref q_t_leapStrings, .ref q_t_theRing, .ref q_t_trial, .ref q_t_sheets, .int t_moves, .int t_latestFinding])), (q_t_sheets, .inl (cO, 4, .inr (.inr (.inr (.inr t_sheets)))))]) hA hw [0, 1] [] [0, 1] rfl rfl rfl (by decide) rfl rfl (va_runV (As := [.int p1]) (rest := []) S (c_X6_sheetOf l D cI cZ cJ cO _ q_t_theRow q_t_pairs q_t_latestStrings q_t_leapStrings q_t_theRing q_t_trial q_t_sheets t_moves t_latestFinding q_t t_sheets p1) (cwV 1 hts gX6_get_X6_sheetOf rfl rfl rfl (by decide +kernel) ⟨Nat.le_of_ble_eq_true rfl, Nat.le_of_ble_eq_true rfl⟩) (pre_V hK hN hw [0, 1] rfl rfl (C := RX6) (T := TX6) (N := 9) (ci := 6) (q0 := 0) rfl rfl) rfl rfl hl.1 rfl (lv_room (Nat.le_of_ble_eq_true rfl)) dX6_get_2 ⟨Nat.zero_le _, Nat.zero_le _⟩) (fun H locs hw => ?_)
  rw [hs0]
  refine W.eq (g2 := F0 m 5 ls [.null]) rfl ?_
  refine lv_astoreN (lv' := [(4, .null), (0, .ref q_t), (1, .int p1), (2, .int p2), (3, .int p3)]) hx hb dX6_get_5 hl (by decide) rfl (fun ls hl => ?_)
  refine lv_aloadN hx hb dX6_get_7 (lv_at hl 0 rfl) ?_
  refine lv_ifnullN (tgt := 19) hx hb dX6_get_9 (by decide) ?_
  refine lv_ldc (v := (-2147483648 : Int32)) hx hb S.2.2.2.1 (hts (.constant RX6 198 (-2147483648)) (by decide +kernel)) dX6_get_19 ?_
  obtain rfl := Option.some.inj hf
  exact rt_i S hr hlk hw dX6_get_21

def f_X6_get_S (N : Nat) (p1 : Int32) (p2 : Int32) (p3 : Int32) (t_latestFinding : Int32) (t_sheets : (Nat → Option Nat)) (S_lost : Int32) (S_form : Int32) (S_size : Int32) (S_items : (Nat → Int32)) : Option (Int32 × Int32) :=
  (bd1 (f_X6_isForm N p2) (fun r1 => (if r1 = (0 : Int32) then (some ((-2147483648 : Int32), t_latestFinding)) else (bd1 (f_X4_findingAt N p2 p3 S_lost S_form S_size) (fun r4 => (if r4 = (0 : Int32) then (bd1 (f_X4_itemAt N p3 S_size S_items) (fun r7 => (some (r7, t_latestFinding)))) else (bd2 (f_X6_find N r4 t_latestFinding) (fun r9 u10 => (some ((-2147483648 : Int32), u10))))))))))

set_option maxHeartbeats 4000000 in
set_option maxRecDepth 100000 in
theorem c_X6_get_S (l : Launch) (D : va_G) (cI cZ cJ cO : ClassId) (sz : Nat) (q_t q_t_theRow q_t_pairs q_t_latestStrings q_t_leapStrings q_t_theRing q_t_trial q_t_sheets q_S q_S_items : Nat) (N : Nat) (p1 : Int32) (p2 : Int32) (p3 : Int32) (t_moves : Int32) (t_latestFinding : Int32) (t_sheets : (Nat → Option Nat)) (S_lost : Int32) (S_form : Int32) (S_size : Int32) (S_items : (Nat → Int32)) (r : Int32) (o_t_latestFinding : Int32) (hs0 : shOf p1 t_sheets = some q_S) (hf : f_X6_get_S N p1 p2 p3 t_latestFinding t_sheets S_lost S_form S_size S_items = some (r, o_t_latestFinding)) : Met l yX6_get wsX6_get ({ frames := 2, cells := 0, slots := 0, locals := 43 }) (PreC D (TY cI cZ cJ cO) [.ref q_t, .int p1, .int p2, .int p3] [(q_t, .inr (6, [.ref q_t_theRow, .ref q_t_pairs, .ref q_t_latestStrings, .ref q_t_leapStrings, .ref q_t_theRing, .ref q_t_trial, .ref q_t_sheets, .int t_moves, .int t_latestFinding])), (q_t_sheets, .inl (cO, 4, .inr (.inr (.inr (.inr t_sheets))))), (q_S, .inr (4, [.ref q_S_items, .int S_lost, .int S_form, .int S_size])), (q_S_items, .inl (cI, 100, .inl S_items))] sz) (QcI D [(q_t, .inr (6, [.ref q_t_theRow, .ref q_t_pairs, .ref q_t_latestStrings, .ref q_t_leapStrings, .ref q_t_theRing, .ref q_t_trial, .ref q_t_sheets, .int t_moves, .int o_t_latestFinding])), (q_t_sheets, .inl (cO, 4, .inr (.inr (.inr (.inr t_sheets))))), (q_S, .inr (4, [.ref q_S_items, .int S_lost, .int S_form, .int S_size])), (q_S_items, .inl (cI, 100, .inl S_items))] (va_A [(q_t, .inr (6, [.ref q_t_theRow, .ref q_t_pairs, .ref q_t_latestStrings, .ref q_t_leapStrings, .ref q_t_theRing, .ref q_t_trial, .ref q_t_sheets, .int t_moves, .int t_latestFinding])), (q_t_sheets, .inl (cO, 4, .inr (.inr (.inr (.inr t_sheets))))), (q_S, .inr (4, [.ref q_S_items, .int S_lost, .int S_form, .int S_size])), (q_S_items, .inl (cI, 100, .inl S_items))] sz) r) 0 0 (va_A [(q_t, .inr (6, [.ref q_t_theRow, .ref q_t_pairs, .ref q_t_latestStrings, .ref q_t_leapStrings, .ref q_t_theRing, .ref q_t_trial, .ref q_t_sheets, .int t_moves, .int t_latestFinding])), (q_t_sheets, .inl (cO, 4, .inr (.inr (.inr (.inr t_sheets))))), (q_S, .inr (4, [.ref q_S_items, .int S_lost, .int S_form, .int S_size])), (q_S_items, .inl (cI, 100, .inl S_items))] sz) := by
  refine ctr (cc := cX6_get) (maxL := 6) (ret := (some .int)) (by decide) rfl (Nat.le_of_ble_eq_true rfl) ?_
  intro p e s m below meth c S hr hlk hnm hK hN hsz hA hw ls hl
  generalize va_A [(q_t, .inr (6, [.ref q_t_theRow, .ref q_t_pairs, .ref q_t_latestStrings, .ref q_t_leapStrings, .ref q_t_theRing, .ref q_t_trial, .ref q_t_sheets, .int t_moves, .int t_latestFinding])), (q_t_sheets, .inl (cO, 4, .inr (.inr (.inr (.inr t_sheets))))), (q_S, .inr (4, [.ref q_S_items, .int S_lost, .int S_form, .int S_size])), (q_S_items, .inl (cI, 100, .inl S_items))] sz = A at hA hw ⊢
  have S : CallFix p m c cX6_get 6 s ([.ref q_t, .int p1, .int p2, .int p3] : List Value).toArray wsX6_get RX6 := S
  have hx := S.1
  have hb := S.2.1
  have hts := S.2.2.2.2
  have hl : lv_has ls 6 [(0, .ref q_t), (1, .int p1), (2, .int p2), (3, .int p3)] := hl
  unfold f_X6_get_S at hf
  refine lv_aload_n hx hb dX6_get_0 rfl (lv_at hl 0 rfl) ?_
  refine lv_iload_n hx hb dX6_get_1 rfl (lv_at hl 1 rfl) ?_
  refine cl_q (wr := [(q_S, .inr (4, [.ref q_S_items, .int S_lost, .int S_form, .int S_size])), (q_S_items, .inl (cI, 100, .inl S_items))]) (ws' := [(q_t, .inr (6, [.ref q_t_theRow, .ref q_t_pairs, .ref q_t_latestStrings, .ref q_t_leapStrings, .ref q_t_theRing, .ref q_t_trial, .ref q_t_sheets, .int t_moves, .int t_latestFinding])), (q_t_sheets, .inl (cO, 4, .inr (.inr (.inr (.inr t_sheets))))), (q_S, .inr (4, [.ref q_S_items, .int S_lost, .int S_form, .int S_size])), (q_S_items, .inl (cI, 100, .inl S_items))]) hA hw [0, 1] [2, 3] [2, 3, 0, 1] rfl rfl rfl (by decide) rfl rfl (va_runV (As := [.int p1]) (rest := []) S (c_X6_sheetOf l D cI cZ cJ cO _ q_t_theRow q_t_pairs q_t_latestStrings q_t_leapStrings q_t_theRing q_t_trial q_t_sheets t_moves t_latestFinding q_t t_sheets p1) (cwV 1 hts gX6_get_X6_sheetOf rfl rfl rfl (by decide +kernel) ⟨Nat.le_of_ble_eq_true rfl, Nat.le_of_ble_eq_true rfl⟩) (pre_V hK hN hw [0, 1] rfl rfl (C := RX6) (T := TX6) (N := 9) (ci := 6) (q0 := 0) rfl rfl) rfl rfl hl.1 rfl (lv_room (Nat.le_of_ble_eq_true rfl)) dX6_get_2 ⟨Nat.zero_le _, Nat.zero_le _⟩) (fun H locs hw => ?_)
  rw [hs0]
  refine W.eq (g2 := F0 m 5 ls [.ref q_S]) rfl ?_
  refine lv_astore (lv' := [(4, .ref q_S), (0, .ref q_t), (1, .int p1), (2, .int p2), (3, .int p3)]) hx hb dX6_get_5 hl (by decide) rfl (fun ls hl => ?_)
  refine lv_aload hx hb dX6_get_7 (lv_at hl 0 rfl) ?_
  refine lv_ifnull hx hb dX6_get_9 ?_
  refine lv_iload_n hx hb dX6_get_12 rfl (lv_at hl 3 rfl) ?_
  obtain ⟨r1, h2, hf⟩ := bd1_some hf
  refine cl_i (wr := [(q_t, .inr (6, [.ref q_t_theRow, .ref q_t_pairs, .ref q_t_latestStrings, .ref q_t_leapStrings, .ref q_t_theRing, .ref q_t_trial, .ref q_t_sheets, .int t_moves, .int t_latestFinding])), (q_t_sheets, .inl (cO, 4, .inr (.inr (.inr (.inr t_sheets))))), (q_S, .inr (4, [.ref q_S_items, .int S_lost, .int S_form, .int S_size])), (q_S_items, .inl (cI, 100, .inl S_items))]) (ws' := [(q_t, .inr (6, [.ref q_t_theRow, .ref q_t_pairs, .ref q_t_latestStrings, .ref q_t_leapStrings, .ref q_t_theRing, .ref q_t_trial, .ref q_t_sheets, .int t_moves, .int t_latestFinding])), (q_t_sheets, .inl (cO, 4, .inr (.inr (.inr (.inr t_sheets))))), (q_S, .inr (4, [.ref q_S_items, .int S_lost, .int S_form, .int S_size])), (q_S_items, .inl (cI, 100, .inl S_items))]) hA hw [] [0, 1, 2, 3] [0, 1, 2, 3] rfl rfl rfl (by decide) rfl rfl (va_runS (As := [.int p2]) (rest := []) S (c_X6_isForm l D cI cZ cJ cO _ N p2 r1 h2) (va_cwS 1 hts gX6_get_X6_isForm rfl rfl rfl (by decide +kernel) ⟨Nat.le_of_ble_eq_true rfl, Nat.le_of_ble_eq_true rfl⟩) (pre_S hK hN hw [] rfl rfl) rfl rfl hl.1 rfl (lv_room (Nat.le_of_ble_eq_true rfl)) dX6_get_13 ⟨Nat.zero_le _, Nat.zero_le _⟩) (fun H locs hw => ?_)
  refine lv_if_ne (tgt := 22) hx hb dX6_get_16 (by decide) (fun c3 => ?_) (fun c3 => ?_)
  · have hf := (if_neg c3).symm.trans hf
    refine lv_aload hx hb dX6_get_22 (lv_at hl 0 rfl) ?_
    refine lv_iload_n hx hb dX6_get_24 rfl (lv_at hl 3 rfl) ?_
    refine lv_iload_n hx hb dX6_get_25 rfl (lv_at hl 4 rfl) ?_
    obtain ⟨r4, h5, hf⟩ := bd1_some hf
    refine cl_i (wr := [(q_t, .inr (6, [.ref q_t_theRow, .ref q_t_pairs, .ref q_t_latestStrings, .ref q_t_leapStrings, .ref q_t_theRing, .ref q_t_trial, .ref q_t_sheets, .int t_moves, .int t_latestFinding])), (q_t_sheets, .inl (cO, 4, .inr (.inr (.inr (.inr t_sheets))))), (q_S_items, .inl (cI, 100, .inl S_items))]) (ws' := [(q_t, .inr (6, [.ref q_t_theRow, .ref q_t_pairs, .ref q_t_latestStrings, .ref q_t_leapStrings, .ref q_t_theRing, .ref q_t_trial, .ref q_t_sheets, .int t_moves, .int t_latestFinding])), (q_t_sheets, .inl (cO, 4, .inr (.inr (.inr (.inr t_sheets))))), (q_S, .inr (4, [.ref q_S_items, .int S_lost, .int S_form, .int S_size])), (q_S_items, .inl (cI, 100, .inl S_items))]) hA hw [2] [0, 1, 3] [0, 1, 3, 2] rfl rfl rfl (by decide) rfl rfl (va_runV (As := [.int p2, .int p3]) (rest := []) S (c_X4_findingAt l D cI cZ cJ cO _ q_S q_S_items N p2 p3 S_lost S_form S_size r4 h5) (cwV 2 hts gX6_get_X4_findingAt rfl rfl rfl (by decide +kernel) ⟨Nat.le_of_ble_eq_true rfl, Nat.le_of_ble_eq_true rfl⟩) (pre_V hK hN hw [2] rfl rfl (C := RX4) (T := TX4) (N := 4) (ci := 4) (q0 := 0) rfl rfl) rfl rfl hl.1 rfl (lv_room (Nat.le_of_ble_eq_true rfl)) dX6_get_26 ⟨Nat.zero_le _, Nat.zero_le _⟩) (fun H locs hw => ?_)
    refine lv_istore (lv' := [(5, .int r4), (4, .ref q_S), (0, .ref q_t), (1, .int p1), (2, .int p2), (3, .int p3)]) hx hb dX6_get_29 hl (by decide) rfl (fun ls hl => ?_)
    refine lv_iload hx hb dX6_get_31 (lv_at hl 0 rfl) ?_
    refine lv_if_eq (tgt := 46) hx hb dX6_get_33 (by decide) (fun c6 => ?_) (fun c6 => ?_)
    · have hf := (if_pos c6).symm.trans hf
      refine lv_aload hx hb dX6_get_46 (lv_at hl 1 rfl) ?_
      refine lv_iload_n hx hb dX6_get_48 rfl (lv_at hl 5 rfl) ?_
      obtain ⟨r7, h8, hf⟩ := bd1_some hf
      refine cl_i (wr := [(q_t, .inr (6, [.ref q_t_theRow, .ref q_t_pairs, .ref q_t_latestStrings, .ref q_t_leapStrings, .ref q_t_theRing, .ref q_t_trial, .ref q_t_sheets, .int t_moves, .int t_latestFinding])), (q_t_sheets, .inl (cO, 4, .inr (.inr (.inr (.inr t_sheets)))))]) (ws' := [(q_t, .inr (6, [.ref q_t_theRow, .ref q_t_pairs, .ref q_t_latestStrings, .ref q_t_leapStrings, .ref q_t_theRing, .ref q_t_trial, .ref q_t_sheets, .int t_moves, .int t_latestFinding])), (q_t_sheets, .inl (cO, 4, .inr (.inr (.inr (.inr t_sheets))))), (q_S, .inr (4, [.ref q_S_items, .int S_lost, .int S_form, .int S_size])), (q_S_items, .inl (cI, 100, .inl S_items))]) hA hw [2, 3] [0, 1] [0, 1, 2, 3] rfl rfl rfl (by decide) rfl rfl (va_runV (As := [.int p3]) (rest := []) S (c_X4_itemAt l D cI cZ cJ cO _ q_S q_S_items N p3 S_lost S_form S_size S_items r7 h8) (cwV 1 hts gX6_get_X4_itemAt rfl rfl rfl (by decide +kernel) ⟨Nat.le_of_ble_eq_true rfl, Nat.le_of_ble_eq_true rfl⟩) (pre_V hK hN hw [2, 3] rfl rfl (C := RX4) (T := TX4) (N := 4) (ci := 4) (q0 := 0) rfl rfl) rfl rfl hl.1 rfl (lv_room (Nat.le_of_ble_eq_true rfl)) dX6_get_49 ⟨Nat.zero_le _, Nat.zero_le _⟩) (fun H locs hw => ?_)
      obtain ⟨rfl, rfl⟩ := pr2 (Option.some.inj hf)
      exact rt_i S hr hlk hw dX6_get_52
    · have hf := (if_neg c6).symm.trans hf
      refine lv_aload_n hx hb dX6_get_36 rfl (lv_at hl 2 rfl) ?_
      refine lv_iload hx hb dX6_get_37 (lv_at hl 0 rfl) ?_
      obtain ⟨r9, u10, h11, hf⟩ := bd2_some hf
      refine cl_i (wr := [(q_t_sheets, .inl (cO, 4, .inr (.inr (.inr (.inr t_sheets))))), (q_S, .inr (4, [.ref q_S_items, .int S_lost, .int S_form, .int S_size])), (q_S_items, .inl (cI, 100, .inl S_items))]) (ws' := [(q_t, .inr (6, [.ref q_t_theRow, .ref q_t_pairs, .ref q_t_latestStrings, .ref q_t_leapStrings, .ref q_t_theRing, .ref q_t_trial, .ref q_t_sheets, .int t_moves, .int u10])), (q_t_sheets, .inl (cO, 4, .inr (.inr (.inr (.inr t_sheets))))), (q_S, .inr (4, [.ref q_S_items, .int S_lost, .int S_form, .int S_size])), (q_S_items, .inl (cI, 100, .inl S_items))]) hA hw [0] [1, 2, 3] [3, 0, 1, 2] rfl rfl rfl (by decide) rfl rfl (va_runV (As := [.int r4]) (rest := []) S (c_X6_find l D cI cZ cJ cO _ q_t q_t_theRow q_t_pairs q_t_latestStrings q_t_leapStrings q_t_theRing q_t_trial q_t_sheets N r4 t_moves t_latestFinding r9 u10 h11) (cwV 1 hts gX6_get_X6_find rfl rfl rfl (by decide +kernel) ⟨Nat.le_of_ble_eq_true rfl, Nat.le_of_ble_eq_true rfl⟩) (pre_V hK hN hw [0] rfl rfl (C := RX6) (T := TX6) (N := 9) (ci := 6) (q0 := 0) rfl rfl) rfl rfl hl.1 rfl (lv_room (Nat.le_of_ble_eq_true rfl)) dX6_get_39 ⟨Nat.zero_le _, Nat.zero_le _⟩) (fun H locs hw => ?_)
      refine lv_pop hx hb dX6_get_42 rfl ?_
      refine lv_ldc (v := (-2147483648 : Int32)) hx hb S.2.2.2.1 (hts (.constant RX6 198 (-2147483648)) (by decide +kernel)) dX6_get_43 ?_
      obtain ⟨rfl, rfl⟩ := pr2 (Option.some.inj hf)
      exact rt_i S hr hlk hw dX6_get_45
  · have hf := (if_pos c3).symm.trans hf
    refine lv_ldc (v := (-2147483648 : Int32)) hx hb S.2.2.2.1 (hts (.constant RX6 198 (-2147483648)) (by decide +kernel)) dX6_get_19 ?_
    obtain ⟨rfl, rfl⟩ := pr2 (Option.some.inj hf)
    exact rt_i S hr hlk hw dX6_get_21

def f_X6_copy_n_n (_ : Nat) (p1 : Int32) (p2 : Int32) (p3 : Int32) (p4 : Int32) (p5 : Int32) (t_sheets : (Nat → Option Nat)) : Option (Int32) :=
  (some (-2 : Int32))

set_option maxHeartbeats 4000000 in
set_option maxRecDepth 100000 in
theorem c_X6_copy_n_n (l : Launch) (D : va_G) (cI cZ cJ cO : ClassId) (sz : Nat) (q_t q_t_theRow q_t_pairs q_t_latestStrings q_t_leapStrings q_t_theRing q_t_trial q_t_sheets : Nat) (N : Nat) (p1 : Int32) (p2 : Int32) (p3 : Int32) (p4 : Int32) (p5 : Int32) (t_moves : Int32) (t_latestFinding : Int32) (t_sheets : (Nat → Option Nat)) (r : Int32) (hs0 : shOf p1 t_sheets = none) (hs1 : shOf p3 t_sheets = none) (hf : f_X6_copy_n_n N p1 p2 p3 p4 p5 t_sheets = some r) : Met l yX6_copy wsX6_copy ({ frames := 1, cells := 0, slots := 0, locals := 21 }) (PreC D (TY cI cZ cJ cO) [.ref q_t, .int p1, .int p2, .int p3, .int p4, .int p5] [(q_t, .inr (6, [.ref q_t_theRow, .ref q_t_pairs, .ref q_t_latestStrings, .ref q_t_leapStrings, .ref q_t_theRing, .ref q_t_trial, .ref q_t_sheets, .int t_moves, .int t_latestFinding])), (q_t_sheets, .inl (cO, 4, .inr (.inr (.inr (.inr t_sheets)))))] sz) (QcI D [(q_t, .inr (6, [.ref q_t_theRow, .ref q_t_pairs, .ref q_t_latestStrings, .ref q_t_leapStrings, .ref q_t_theRing, .ref q_t_trial, .ref q_t_sheets, .int t_moves, .int t_latestFinding])), (q_t_sheets, .inl (cO, 4, .inr (.inr (.inr (.inr t_sheets)))))] (va_A [(q_t, .inr (6, [.ref q_t_theRow, .ref q_t_pairs, .ref q_t_latestStrings, .ref q_t_leapStrings, .ref q_t_theRing, .ref q_t_trial, .ref q_t_sheets, .int t_moves, .int t_latestFinding])), (q_t_sheets, .inl (cO, 4, .inr (.inr (.inr (.inr t_sheets)))))] sz) r) 0 0 (va_A [(q_t, .inr (6, [.ref q_t_theRow, .ref q_t_pairs, .ref q_t_latestStrings, .ref q_t_leapStrings, .ref q_t_theRing, .ref q_t_trial, .ref q_t_sheets, .int t_moves, .int t_latestFinding])), (q_t_sheets, .inl (cO, 4, .inr (.inr (.inr (.inr t_sheets)))))] sz) := by
  refine ctr (cc := cX6_copy) (maxL := 8) (ret := (some .int)) (by decide) rfl (Nat.le_of_ble_eq_true rfl) ?_
  intro p e s m below meth c S hr hlk hnm hK hN hsz hA hw ls hl
  generalize va_A [(q_t, .inr (6, [.ref q_t_theRow, .ref q_t_pairs, .ref q_t_latestStrings, .ref q_t_leapStrings, .ref q_t_theRing, .ref q_t_trial, .ref q_t_sheets, .int t_moves, .int t_latestFinding])), (q_t_sheets, .inl (cO, 4, .inr (.inr (.inr (.inr t_sheets)))))] sz = A at hA hw ⊢
  have S : CallFix p m c cX6_copy 8 s ([.ref q_t, .int p1, .int p2, .int p3, .int p4, .int p5] : List Value).toArray wsX6_copy RX6 := S
  have hx := S.1
  have hb := S.2.1
  have hts := S.2.2.2.2
  have hl : lv_has ls 8 [(0, .ref q_t), (1, .int p1), (2, .int p2), (3, .int p3), (4, .int p4), (5, .int p5)] := hl
  unfold f_X6_copy_n_n at hf
  refine lv_aload_n hx hb dX6_copy_0 rfl (lv_at hl 0 rfl) ?_
  refine lv_iload_n hx hb dX6_copy_1 rfl (lv_at hl 1 rfl) ?_
  refine cl_q (wr := []) (ws' := [(q_t, .inr (6, [.ref q_t_theRow, .ref q_t_pairs, .ref q_t_latestStrings, .ref q_t_leapStrings, .ref q_t_theRing, .ref q_t_trial, .ref q_t_sheets, .int t_moves, .int t_latestFinding])), (q_t_sheets, .inl (cO, 4, .inr (.inr (.inr (.inr t_sheets)))))]) hA hw [0, 1] [] [0, 1] rfl rfl rfl (by decide) rfl rfl (va_runV (As := [.int p1]) (rest := []) S (c_X6_sheetOf l D cI cZ cJ cO _ q_t_theRow q_t_pairs q_t_latestStrings q_t_leapStrings q_t_theRing q_t_trial q_t_sheets t_moves t_latestFinding q_t t_sheets p1) (cwV 1 hts gX6_copy_X6_sheetOf rfl rfl rfl (by decide +kernel) ⟨Nat.le_of_ble_eq_true rfl, Nat.le_of_ble_eq_true rfl⟩) (pre_V hK hN hw [0, 1] rfl rfl (C := RX6) (T := TX6) (N := 9) (ci := 6) (q0 := 0) rfl rfl) rfl rfl hl.1 rfl (lv_room (Nat.le_of_ble_eq_true rfl)) dX6_copy_2 ⟨Nat.zero_le _, Nat.zero_le _⟩) (fun H locs hw => ?_)
  rw [hs0]
  refine W.eq (g2 := F0 m 5 ls [.null]) rfl ?_
  refine lv_astoreN (lv' := [(6, .null), (0, .ref q_t), (1, .int p1), (2, .int p2), (3, .int p3), (4, .int p4), (5, .int p5)]) hx hb dX6_copy_5 hl (by decide) rfl (fun ls hl => ?_)
  refine lv_aload_n hx hb dX6_copy_7 rfl (lv_at hl 1 rfl) ?_
  refine lv_iload_n hx hb dX6_copy_8 rfl (lv_at hl 4 rfl) ?_
  refine cl_q (wr := []) (ws' := [(q_t, .inr (6, [.ref q_t_theRow, .ref q_t_pairs, .ref q_t_latestStrings, .ref q_t_leapStrings, .ref q_t_theRing, .ref q_t_trial, .ref q_t_sheets, .int t_moves, .int t_latestFinding])), (q_t_sheets, .inl (cO, 4, .inr (.inr (.inr (.inr t_sheets)))))]) hA hw [0, 1] [] [0, 1] rfl rfl rfl (by decide) rfl rfl (va_runV (As := [.int p3]) (rest := []) S (c_X6_sheetOf l D cI cZ cJ cO _ q_t_theRow q_t_pairs q_t_latestStrings q_t_leapStrings q_t_theRing q_t_trial q_t_sheets t_moves t_latestFinding q_t t_sheets p3) (cwV 1 hts gX6_copy_X6_sheetOf rfl rfl rfl (by decide +kernel) ⟨Nat.le_of_ble_eq_true rfl, Nat.le_of_ble_eq_true rfl⟩) (pre_V hK hN hw [0, 1] rfl rfl (C := RX6) (T := TX6) (N := 9) (ci := 6) (q0 := 0) rfl rfl) rfl rfl hl.1 rfl (lv_room (Nat.le_of_ble_eq_true rfl)) dX6_copy_9 ⟨Nat.zero_le _, Nat.zero_le _⟩) (fun H locs hw => ?_)
  rw [hs1]
  refine W.eq (g2 := F0 m 12 ls [.null]) rfl ?_
  refine lv_astoreN (lv' := [(7, .null), (6, .null), (0, .ref q_t), (1, .int p1), (2, .int p2), (3, .int p3), (4, .int p4), (5, .int p5)]) hx hb dX6_copy_12 hl (by decide) rfl (fun ls hl => ?_)
  refine lv_aloadN hx hb dX6_copy_14 (lv_at hl 1 rfl) ?_
  refine lv_ifnullN (tgt := 24) hx hb dX6_copy_16 (by decide) ?_
  refine lv_bipush (v := (-2 : Int32)) hx hb dX6_copy_24 (by decide) ?_
  obtain rfl := Option.some.inj hf
  exact rt_i S hr hlk hw dX6_copy_26

def f_X6_copy_n_S (_ : Nat) (p1 : Int32) (p2 : Int32) (p3 : Int32) (p4 : Int32) (p5 : Int32) (t_sheets : (Nat → Option Nat)) : Option (Int32) :=
  (some (-2 : Int32))

set_option maxHeartbeats 4000000 in
set_option maxRecDepth 100000 in
theorem c_X6_copy_n_S (l : Launch) (D : va_G) (cI cZ cJ cO : ClassId) (sz : Nat) (q_S q_t q_t_theRow q_t_pairs q_t_latestStrings q_t_leapStrings q_t_theRing q_t_trial q_t_sheets : Nat) (N : Nat) (p1 : Int32) (p2 : Int32) (p3 : Int32) (p4 : Int32) (p5 : Int32) (t_moves : Int32) (t_latestFinding : Int32) (t_sheets : (Nat → Option Nat)) (r : Int32) (hs0 : shOf p1 t_sheets = none) (hs1 : shOf p3 t_sheets = some q_S) (hf : f_X6_copy_n_S N p1 p2 p3 p4 p5 t_sheets = some r) : Met l yX6_copy wsX6_copy ({ frames := 1, cells := 0, slots := 0, locals := 21 }) (PreC D (TY cI cZ cJ cO) [.ref q_t, .int p1, .int p2, .int p3, .int p4, .int p5] [(q_t, .inr (6, [.ref q_t_theRow, .ref q_t_pairs, .ref q_t_latestStrings, .ref q_t_leapStrings, .ref q_t_theRing, .ref q_t_trial, .ref q_t_sheets, .int t_moves, .int t_latestFinding])), (q_t_sheets, .inl (cO, 4, .inr (.inr (.inr (.inr t_sheets)))))] sz) (QcI D [(q_t, .inr (6, [.ref q_t_theRow, .ref q_t_pairs, .ref q_t_latestStrings, .ref q_t_leapStrings, .ref q_t_theRing, .ref q_t_trial, .ref q_t_sheets, .int t_moves, .int t_latestFinding])), (q_t_sheets, .inl (cO, 4, .inr (.inr (.inr (.inr t_sheets)))))] (va_A [(q_t, .inr (6, [.ref q_t_theRow, .ref q_t_pairs, .ref q_t_latestStrings, .ref q_t_leapStrings, .ref q_t_theRing, .ref q_t_trial, .ref q_t_sheets, .int t_moves, .int t_latestFinding])), (q_t_sheets, .inl (cO, 4, .inr (.inr (.inr (.inr t_sheets)))))] sz) r) 0 0 (va_A [(q_t, .inr (6, [.ref q_t_theRow, .ref q_t_pairs, .ref q_t_latestStrings, .ref q_t_leapStrings, .ref q_t_theRing, .ref q_t_trial, .ref q_t_sheets, .int t_moves, .int t_latestFinding])), (q_t_sheets, .inl (cO, 4, .inr (.inr (.inr (.inr t_sheets)))))] sz) := by
  refine ctr (cc := cX6_copy) (maxL := 8) (ret := (some .int)) (by decide) rfl (Nat.le_of_ble_eq_true rfl) ?_
  intro p e s m below meth c S hr hlk hnm hK hN hsz hA hw ls hl
  generalize va_A [(q_t, .inr (6, [.ref q_t_theRow, .ref q_t_pairs, .ref q_t_latestStrings, .ref q_t_leapStrings, .ref q_t_theRing, .ref q_t_trial, .ref q_t_sheets, .int t_moves, .int t_latestFinding])), (q_t_sheets, .inl (cO, 4, .inr (.inr (.inr (.inr t_sheets)))))] sz = A at hA hw ⊢
  have S : CallFix p m c cX6_copy 8 s ([.ref q_t, .int p1, .int p2, .int p3, .int p4, .int p5] : List Value).toArray wsX6_copy RX6 := S
  have hx := S.1
  have hb := S.2.1
  have hts := S.2.2.2.2
  have hl : lv_has ls 8 [(0, .ref q_t), (1, .int p1), (2, .int p2), (3, .int p3), (4, .int p4), (5, .int p5)] := hl
  unfold f_X6_copy_n_S at hf
  refine lv_aload_n hx hb dX6_copy_0 rfl (lv_at hl 0 rfl) ?_
  refine lv_iload_n hx hb dX6_copy_1 rfl (lv_at hl 1 rfl) ?_
  refine cl_q (wr := []) (ws' := [(q_t, .inr (6, [.ref q_t_theRow, .ref q_t_pairs, .ref q_t_latestStrings, .ref q_t_leapStrings, .ref q_t_theRing, .ref q_t_trial, .ref q_t_sheets, .int t_moves, .int t_latestFinding])), (q_t_sheets, .inl (cO, 4, .inr (.inr (.inr (.inr t_sheets)))))]) hA hw [0, 1] [] [0, 1] rfl rfl rfl (by decide) rfl rfl (va_runV (As := [.int p1]) (rest := []) S (c_X6_sheetOf l D cI cZ cJ cO _ q_t_theRow q_t_pairs q_t_latestStrings q_t_leapStrings q_t_theRing q_t_trial q_t_sheets t_moves t_latestFinding q_t t_sheets p1) (cwV 1 hts gX6_copy_X6_sheetOf rfl rfl rfl (by decide +kernel) ⟨Nat.le_of_ble_eq_true rfl, Nat.le_of_ble_eq_true rfl⟩) (pre_V hK hN hw [0, 1] rfl rfl (C := RX6) (T := TX6) (N := 9) (ci := 6) (q0 := 0) rfl rfl) rfl rfl hl.1 rfl (lv_room (Nat.le_of_ble_eq_true rfl)) dX6_copy_2 ⟨Nat.zero_le _, Nat.zero_le _⟩) (fun H locs hw => ?_)
  rw [hs0]
  refine W.eq (g2 := F0 m 5 ls [.null]) rfl ?_
  refine lv_astoreN (lv' := [(6, .null), (0, .ref q_t), (1, .int p1), (2, .int p2), (3, .int p3), (4, .int p4), (5, .int p5)]) hx hb dX6_copy_5 hl (by decide) rfl (fun ls hl => ?_)
  refine lv_aload_n hx hb dX6_copy_7 rfl (lv_at hl 1 rfl) ?_
  refine lv_iload_n hx hb dX6_copy_8 rfl (lv_at hl 4 rfl) ?_
  refine cl_q (wr := []) (ws' := [(q_t, .inr (6, [.ref q_t_theRow, .ref q_t_pairs, .ref q_t_latestStrings, .ref q_t_leapStrings, .ref q_t_theRing, .ref q_t_trial, .ref q_t_sheets, .int t_moves, .int t_latestFinding])), (q_t_sheets, .inl (cO, 4, .inr (.inr (.inr (.inr t_sheets)))))]) hA hw [0, 1] [] [0, 1] rfl rfl rfl (by decide) rfl rfl (va_runV (As := [.int p3]) (rest := []) S (c_X6_sheetOf l D cI cZ cJ cO _ q_t_theRow q_t_pairs q_t_latestStrings q_t_leapStrings q_t_theRing q_t_trial q_t_sheets t_moves t_latestFinding q_t t_sheets p3) (cwV 1 hts gX6_copy_X6_sheetOf rfl rfl rfl (by decide +kernel) ⟨Nat.le_of_ble_eq_true rfl, Nat.le_of_ble_eq_true rfl⟩) (pre_V hK hN hw [0, 1] rfl rfl (C := RX6) (T := TX6) (N := 9) (ci := 6) (q0 := 0) rfl rfl) rfl rfl hl.1 rfl (lv_room (Nat.le_of_ble_eq_true rfl)) dX6_copy_9 ⟨Nat.zero_le _, Nat.zero_le _⟩) (fun H locs hw => ?_)
  rw [hs1]
  refine W.eq (g2 := F0 m 12 ls [.ref q_S]) rfl ?_
  refine lv_astore (lv' := [(7, .ref q_S), (6, .null), (0, .ref q_t), (1, .int p1), (2, .int p2), (3, .int p3), (4, .int p4), (5, .int p5)]) hx hb dX6_copy_12 hl (by decide) rfl (fun ls hl => ?_)
  refine lv_aloadN hx hb dX6_copy_14 (lv_at hl 1 rfl) ?_
  refine lv_ifnullN (tgt := 24) hx hb dX6_copy_16 (by decide) ?_
  refine lv_bipush (v := (-2 : Int32)) hx hb dX6_copy_24 (by decide) ?_
  obtain rfl := Option.some.inj hf
  exact rt_i S hr hlk hw dX6_copy_26

def f_X6_copy_S_n (_ : Nat) (p1 : Int32) (p2 : Int32) (p3 : Int32) (p4 : Int32) (p5 : Int32) (t_sheets : (Nat → Option Nat)) : Option (Int32) :=
  (some (-2 : Int32))

set_option maxHeartbeats 4000000 in
set_option maxRecDepth 100000 in
theorem c_X6_copy_S_n (l : Launch) (D : va_G) (cI cZ cJ cO : ClassId) (sz : Nat) (q_S q_t q_t_theRow q_t_pairs q_t_latestStrings q_t_leapStrings q_t_theRing q_t_trial q_t_sheets : Nat) (N : Nat) (p1 : Int32) (p2 : Int32) (p3 : Int32) (p4 : Int32) (p5 : Int32) (t_moves : Int32) (t_latestFinding : Int32) (t_sheets : (Nat → Option Nat)) (r : Int32) (hs0 : shOf p1 t_sheets = some q_S) (hs1 : shOf p3 t_sheets = none) (hf : f_X6_copy_S_n N p1 p2 p3 p4 p5 t_sheets = some r) : Met l yX6_copy wsX6_copy ({ frames := 1, cells := 0, slots := 0, locals := 21 }) (PreC D (TY cI cZ cJ cO) [.ref q_t, .int p1, .int p2, .int p3, .int p4, .int p5] [(q_t, .inr (6, [.ref q_t_theRow, .ref q_t_pairs, .ref q_t_latestStrings, .ref q_t_leapStrings, .ref q_t_theRing, .ref q_t_trial, .ref q_t_sheets, .int t_moves, .int t_latestFinding])), (q_t_sheets, .inl (cO, 4, .inr (.inr (.inr (.inr t_sheets)))))] sz) (QcI D [(q_t, .inr (6, [.ref q_t_theRow, .ref q_t_pairs, .ref q_t_latestStrings, .ref q_t_leapStrings, .ref q_t_theRing, .ref q_t_trial, .ref q_t_sheets, .int t_moves, .int t_latestFinding])), (q_t_sheets, .inl (cO, 4, .inr (.inr (.inr (.inr t_sheets)))))] (va_A [(q_t, .inr (6, [.ref q_t_theRow, .ref q_t_pairs, .ref q_t_latestStrings, .ref q_t_leapStrings, .ref q_t_theRing, .ref q_t_trial, .ref q_t_sheets, .int t_moves, .int t_latestFinding])), (q_t_sheets, .inl (cO, 4, .inr (.inr (.inr (.inr t_sheets)))))] sz) r) 0 0 (va_A [(q_t, .inr (6, [.ref q_t_theRow, .ref q_t_pairs, .ref q_t_latestStrings, .ref q_t_leapStrings, .ref q_t_theRing, .ref q_t_trial, .ref q_t_sheets, .int t_moves, .int t_latestFinding])), (q_t_sheets, .inl (cO, 4, .inr (.inr (.inr (.inr t_sheets)))))] sz) := by
  refine ctr (cc := cX6_copy) (maxL := 8) (ret := (some .int)) (by decide) rfl (Nat.le_of_ble_eq_true rfl) ?_
  intro p e s m below meth c S hr hlk hnm hK hN hsz hA hw ls hl
  generalize va_A [(q_t, .inr (6, [.ref q_t_theRow, .ref q_t_pairs, .ref q_t_latestStrings, .ref q_t_leapStrings, .ref q_t_theRing, .ref q_t_trial, .ref q_t_sheets, .int t_moves, .int t_latestFinding])), (q_t_sheets, .inl (cO, 4, .inr (.inr (.inr (.inr t_sheets)))))] sz = A at hA hw ⊢
  have S : CallFix p m c cX6_copy 8 s ([.ref q_t, .int p1, .int p2, .int p3, .int p4, .int p5] : List Value).toArray wsX6_copy RX6 := S
  have hx := S.1
  have hb := S.2.1
  have hts := S.2.2.2.2
  have hl : lv_has ls 8 [(0, .ref q_t), (1, .int p1), (2, .int p2), (3, .int p3), (4, .int p4), (5, .int p5)] := hl
  unfold f_X6_copy_S_n at hf
  refine lv_aload_n hx hb dX6_copy_0 rfl (lv_at hl 0 rfl) ?_
  refine lv_iload_n hx hb dX6_copy_1 rfl (lv_at hl 1 rfl) ?_
  refine cl_q (wr := []) (ws' := [(q_t, .inr (6, [.ref q_t_theRow, .ref q_t_pairs, .ref q_t_latestStrings, .ref q_t_leapStrings, .ref q_t_theRing, .ref q_t_trial, .ref q_t_sheets, .int t_moves, .int t_latestFinding])), (q_t_sheets, .inl (cO, 4, .inr (.inr (.inr (.inr t_sheets)))))]) hA hw [0, 1] [] [0, 1] rfl rfl rfl (by decide) rfl rfl (va_runV (As := [.int p1]) (rest := []) S (c_X6_sheetOf l D cI cZ cJ cO _ q_t_theRow q_t_pairs q_t_latestStrings q_t_leapStrings q_t_theRing q_t_trial q_t_sheets t_moves t_latestFinding q_t t_sheets p1) (cwV 1 hts gX6_copy_X6_sheetOf rfl rfl rfl (by decide +kernel) ⟨Nat.le_of_ble_eq_true rfl, Nat.le_of_ble_eq_true rfl⟩) (pre_V hK hN hw [0, 1] rfl rfl (C := RX6) (T := TX6) (N := 9) (ci := 6) (q0 := 0) rfl rfl) rfl rfl hl.1 rfl (lv_room (Nat.le_of_ble_eq_true rfl)) dX6_copy_2 ⟨Nat.zero_le _, Nat.zero_le _⟩) (fun H locs hw => ?_)
  rw [hs0]
  refine W.eq (g2 := F0 m 5 ls [.ref q_S]) rfl ?_
  refine lv_astore (lv' := [(6, .ref q_S), (0, .ref q_t), (1, .int p1), (2, .int p2), (3, .int p3), (4, .int p4), (5, .int p5)]) hx hb dX6_copy_5 hl (by decide) rfl (fun ls hl => ?_)
  refine lv_aload_n hx hb dX6_copy_7 rfl (lv_at hl 1 rfl) ?_
  refine lv_iload_n hx hb dX6_copy_8 rfl (lv_at hl 4 rfl) ?_
  refine cl_q (wr := []) (ws' := [(q_t, .inr (6, [.ref q_t_theRow, .ref q_t_pairs, .ref q_t_latestStrings, .ref q_t_leapStrings, .ref q_t_theRing, .ref q_t_trial, .ref q_t_sheets, .int t_moves, .int t_latestFinding])), (q_t_sheets, .inl (cO, 4, .inr (.inr (.inr (.inr t_sheets)))))]) hA hw [0, 1] [] [0, 1] rfl rfl rfl (by decide) rfl rfl (va_runV (As := [.int p3]) (rest := []) S (c_X6_sheetOf l D cI cZ cJ cO _ q_t_theRow q_t_pairs q_t_latestStrings q_t_leapStrings q_t_theRing q_t_trial q_t_sheets t_moves t_latestFinding q_t t_sheets p3) (cwV 1 hts gX6_copy_X6_sheetOf rfl rfl rfl (by decide +kernel) ⟨Nat.le_of_ble_eq_true rfl, Nat.le_of_ble_eq_true rfl⟩) (pre_V hK hN hw [0, 1] rfl rfl (C := RX6) (T := TX6) (N := 9) (ci := 6) (q0 := 0) rfl rfl) rfl rfl hl.1 rfl (lv_room (Nat.le_of_ble_eq_true rfl)) dX6_copy_9 ⟨Nat.zero_le _, Nat.zero_le _⟩) (fun H locs hw => ?_)
  rw [hs1]
  refine W.eq (g2 := F0 m 12 ls [.null]) rfl ?_
  refine lv_astoreN (lv' := [(7, .null), (6, .ref q_S), (0, .ref q_t), (1, .int p1), (2, .int p2), (3, .int p3), (4, .int p4), (5, .int p5)]) hx hb dX6_copy_12 hl (by decide) rfl (fun ls hl => ?_)
  refine lv_aload hx hb dX6_copy_14 (lv_at hl 1 rfl) ?_
  refine lv_ifnull hx hb dX6_copy_16 ?_
  refine lv_aloadN hx hb dX6_copy_19 (lv_at hl 0 rfl) ?_
  refine lv_ifnonnullN hx hb dX6_copy_21 ?_
  refine lv_bipush (v := (-2 : Int32)) hx hb dX6_copy_24 (by decide) ?_
  obtain rfl := Option.some.inj hf
  exact rt_i S hr hlk hw dX6_copy_26

def f_X6_copy_S_T (N : Nat) (p1 : Int32) (p2 : Int32) (p3 : Int32) (p4 : Int32) (p5 : Int32) (t_latestFinding : Int32) (t_sheets : (Nat → Option Nat)) (S_lost : Int32) (S_form : Int32) (S_size : Int32) (S_items : (Nat → Int32)) (T_lost : Int32) (T_form : Int32) (T_size : Int32) (T_items : (Nat → Int32)) : Option (Int32 × Int32 × (Nat → Int32)) :=
  (if S_lost = (0 : Int32) then (if T_lost = (0 : Int32) then (if S_form = T_form then (bd1 (f_X4_hasItems N p2 p5 S_size) (fun r7 => (if r7 = (0 : Int32) then (bd2 (f_X6_find N (2 : Int32) t_latestFinding) (fun r10 u11 => (some (r10, u11, T_items)))) else (bd1 (f_X4_hasItems N p4 p5 T_size) (fun r13 => (if r13 = (0 : Int32) then (bd2 (f_X6_find N (2 : Int32) t_latestFinding) (fun r17 u18 => (some (r17, u18, T_items)))) else (ck (cpok p2 p4 p5 100 100) (some ((1 : Int32), t_latestFinding, (va_cpy S_items T_items p2.toNatClampNeg p4.toNatClampNeg p5.toNatClampNeg)))))))))) else (bd2 (f_X6_find N (4 : Int32) t_latestFinding) (fun r20 u21 => (some (r20, u21, T_items))))) else (bd2 (f_X6_find N (1 : Int32) t_latestFinding) (fun r23 u24 => (some (r23, u24, T_items))))) else (bd2 (f_X6_find N (1 : Int32) t_latestFinding) (fun r2 u3 => (some (r2, u3, T_items)))))

set_option maxHeartbeats 4000000 in
set_option maxRecDepth 100000 in
theorem c_X6_copy_S_T (l : Launch) (D : va_G) (cI cZ cJ cO : ClassId) (sz : Nat) (q_t q_t_theRow q_t_pairs q_t_latestStrings q_t_leapStrings q_t_theRing q_t_trial q_t_sheets q_S q_S_items q_T q_T_items : Nat) (N : Nat) (p1 : Int32) (p2 : Int32) (p3 : Int32) (p4 : Int32) (p5 : Int32) (t_moves : Int32) (t_latestFinding : Int32) (t_sheets : (Nat → Option Nat)) (S_lost : Int32) (S_form : Int32) (S_size : Int32) (S_items : (Nat → Int32)) (T_lost : Int32) (T_form : Int32) (T_size : Int32) (T_items : (Nat → Int32)) (r : Int32) (o_t_latestFinding : Int32) (o_T_items : (Nat → Int32)) (hs0 : shOf p1 t_sheets = some q_S) (hs1 : shOf p3 t_sheets = some q_T) (hf : f_X6_copy_S_T N p1 p2 p3 p4 p5 t_latestFinding t_sheets S_lost S_form S_size S_items T_lost T_form T_size T_items = some (r, o_t_latestFinding, o_T_items)) : Met l yX6_copy wsX6_copy ({ frames := 1, cells := 0, slots := 0, locals := 64 }) (PreC D (TY cI cZ cJ cO) [.ref q_t, .int p1, .int p2, .int p3, .int p4, .int p5] [(q_t, .inr (6, [.ref q_t_theRow, .ref q_t_pairs, .ref q_t_latestStrings, .ref q_t_leapStrings, .ref q_t_theRing, .ref q_t_trial, .ref q_t_sheets, .int t_moves, .int t_latestFinding])), (q_t_sheets, .inl (cO, 4, .inr (.inr (.inr (.inr t_sheets))))), (q_S, .inr (4, [.ref q_S_items, .int S_lost, .int S_form, .int S_size])), (q_S_items, .inl (cI, 100, .inl S_items)), (q_T, .inr (4, [.ref q_T_items, .int T_lost, .int T_form, .int T_size])), (q_T_items, .inl (cI, 100, .inl T_items))] sz) (QcI D [(q_t, .inr (6, [.ref q_t_theRow, .ref q_t_pairs, .ref q_t_latestStrings, .ref q_t_leapStrings, .ref q_t_theRing, .ref q_t_trial, .ref q_t_sheets, .int t_moves, .int o_t_latestFinding])), (q_t_sheets, .inl (cO, 4, .inr (.inr (.inr (.inr t_sheets))))), (q_S, .inr (4, [.ref q_S_items, .int S_lost, .int S_form, .int S_size])), (q_S_items, .inl (cI, 100, .inl S_items)), (q_T, .inr (4, [.ref q_T_items, .int T_lost, .int T_form, .int T_size])), (q_T_items, .inl (cI, 100, .inl o_T_items))] (va_A [(q_t, .inr (6, [.ref q_t_theRow, .ref q_t_pairs, .ref q_t_latestStrings, .ref q_t_leapStrings, .ref q_t_theRing, .ref q_t_trial, .ref q_t_sheets, .int t_moves, .int t_latestFinding])), (q_t_sheets, .inl (cO, 4, .inr (.inr (.inr (.inr t_sheets))))), (q_S, .inr (4, [.ref q_S_items, .int S_lost, .int S_form, .int S_size])), (q_S_items, .inl (cI, 100, .inl S_items)), (q_T, .inr (4, [.ref q_T_items, .int T_lost, .int T_form, .int T_size])), (q_T_items, .inl (cI, 100, .inl T_items))] sz) r) 0 0 (va_A [(q_t, .inr (6, [.ref q_t_theRow, .ref q_t_pairs, .ref q_t_latestStrings, .ref q_t_leapStrings, .ref q_t_theRing, .ref q_t_trial, .ref q_t_sheets, .int t_moves, .int t_latestFinding])), (q_t_sheets, .inl (cO, 4, .inr (.inr (.inr (.inr t_sheets))))), (q_S, .inr (4, [.ref q_S_items, .int S_lost, .int S_form, .int S_size])), (q_S_items, .inl (cI, 100, .inl S_items)), (q_T, .inr (4, [.ref q_T_items, .int T_lost, .int T_form, .int T_size])), (q_T_items, .inl (cI, 100, .inl T_items))] sz) := by
  refine ctr (cc := cX6_copy) (maxL := 8) (ret := (some .int)) (by decide) rfl (Nat.le_of_ble_eq_true rfl) ?_
  intro p e s m below meth c S hr hlk hnm hK hN hsz hA hw ls hl
  generalize va_A [(q_t, .inr (6, [.ref q_t_theRow, .ref q_t_pairs, .ref q_t_latestStrings, .ref q_t_leapStrings, .ref q_t_theRing, .ref q_t_trial, .ref q_t_sheets, .int t_moves, .int t_latestFinding])), (q_t_sheets, .inl (cO, 4, .inr (.inr (.inr (.inr t_sheets))))), (q_S, .inr (4, [.ref q_S_items, .int S_lost, .int S_form, .int S_size])), (q_S_items, .inl (cI, 100, .inl S_items)), (q_T, .inr (4, [.ref q_T_items, .int T_lost, .int T_form, .int T_size])), (q_T_items, .inl (cI, 100, .inl T_items))] sz = A at hA hw ⊢
  have S : CallFix p m c cX6_copy 8 s ([.ref q_t, .int p1, .int p2, .int p3, .int p4, .int p5] : List Value).toArray wsX6_copy RX6 := S
  have hx := S.1
  have hb := S.2.1
  have hts := S.2.2.2.2
  have hl : lv_has ls 8 [(0, .ref q_t), (1, .int p1), (2, .int p2), (3, .int p3), (4, .int p4), (5, .int p5)] := hl
  have hinX4 : ∀ w ∈ u_ws RX4 TX4 4, w ∈ wsX6_copy := by decide +kernel
  unfold f_X6_copy_S_T at hf
  refine lv_aload_n hx hb dX6_copy_0 rfl (lv_at hl 0 rfl) ?_
  refine lv_iload_n hx hb dX6_copy_1 rfl (lv_at hl 1 rfl) ?_
  refine cl_q (wr := [(q_S, .inr (4, [.ref q_S_items, .int S_lost, .int S_form, .int S_size])), (q_S_items, .inl (cI, 100, .inl S_items)), (q_T, .inr (4, [.ref q_T_items, .int T_lost, .int T_form, .int T_size])), (q_T_items, .inl (cI, 100, .inl T_items))]) (ws' := [(q_t, .inr (6, [.ref q_t_theRow, .ref q_t_pairs, .ref q_t_latestStrings, .ref q_t_leapStrings, .ref q_t_theRing, .ref q_t_trial, .ref q_t_sheets, .int t_moves, .int t_latestFinding])), (q_t_sheets, .inl (cO, 4, .inr (.inr (.inr (.inr t_sheets))))), (q_S, .inr (4, [.ref q_S_items, .int S_lost, .int S_form, .int S_size])), (q_S_items, .inl (cI, 100, .inl S_items)), (q_T, .inr (4, [.ref q_T_items, .int T_lost, .int T_form, .int T_size])), (q_T_items, .inl (cI, 100, .inl T_items))]) hA hw [0, 1] [2, 3, 4, 5] [4, 5, 0, 1, 2, 3] rfl rfl rfl (by decide) rfl rfl (va_runV (As := [.int p1]) (rest := []) S (c_X6_sheetOf l D cI cZ cJ cO _ q_t_theRow q_t_pairs q_t_latestStrings q_t_leapStrings q_t_theRing q_t_trial q_t_sheets t_moves t_latestFinding q_t t_sheets p1) (cwV 1 hts gX6_copy_X6_sheetOf rfl rfl rfl (by decide +kernel) ⟨Nat.le_of_ble_eq_true rfl, Nat.le_of_ble_eq_true rfl⟩) (pre_V hK hN hw [0, 1] rfl rfl (C := RX6) (T := TX6) (N := 9) (ci := 6) (q0 := 0) rfl rfl) rfl rfl hl.1 rfl (lv_room (Nat.le_of_ble_eq_true rfl)) dX6_copy_2 ⟨Nat.zero_le _, Nat.zero_le _⟩) (fun H locs hw => ?_)
  rw [hs0]
  refine W.eq (g2 := F0 m 5 ls [.ref q_S]) rfl ?_
  refine lv_astore (lv' := [(6, .ref q_S), (0, .ref q_t), (1, .int p1), (2, .int p2), (3, .int p3), (4, .int p4), (5, .int p5)]) hx hb dX6_copy_5 hl (by decide) rfl (fun ls hl => ?_)
  refine lv_aload_n hx hb dX6_copy_7 rfl (lv_at hl 1 rfl) ?_
  refine lv_iload_n hx hb dX6_copy_8 rfl (lv_at hl 4 rfl) ?_
  refine cl_q (wr := [(q_S, .inr (4, [.ref q_S_items, .int S_lost, .int S_form, .int S_size])), (q_S_items, .inl (cI, 100, .inl S_items)), (q_T, .inr (4, [.ref q_T_items, .int T_lost, .int T_form, .int T_size])), (q_T_items, .inl (cI, 100, .inl T_items))]) (ws' := [(q_t, .inr (6, [.ref q_t_theRow, .ref q_t_pairs, .ref q_t_latestStrings, .ref q_t_leapStrings, .ref q_t_theRing, .ref q_t_trial, .ref q_t_sheets, .int t_moves, .int t_latestFinding])), (q_t_sheets, .inl (cO, 4, .inr (.inr (.inr (.inr t_sheets))))), (q_S, .inr (4, [.ref q_S_items, .int S_lost, .int S_form, .int S_size])), (q_S_items, .inl (cI, 100, .inl S_items)), (q_T, .inr (4, [.ref q_T_items, .int T_lost, .int T_form, .int T_size])), (q_T_items, .inl (cI, 100, .inl T_items))]) hA hw [0, 1] [2, 3, 4, 5] [4, 5, 0, 1, 2, 3] rfl rfl rfl (by decide) rfl rfl (va_runV (As := [.int p3]) (rest := []) S (c_X6_sheetOf l D cI cZ cJ cO _ q_t_theRow q_t_pairs q_t_latestStrings q_t_leapStrings q_t_theRing q_t_trial q_t_sheets t_moves t_latestFinding q_t t_sheets p3) (cwV 1 hts gX6_copy_X6_sheetOf rfl rfl rfl (by decide +kernel) ⟨Nat.le_of_ble_eq_true rfl, Nat.le_of_ble_eq_true rfl⟩) (pre_V hK hN hw [0, 1] rfl rfl (C := RX6) (T := TX6) (N := 9) (ci := 6) (q0 := 0) rfl rfl) rfl rfl hl.1 rfl (lv_room (Nat.le_of_ble_eq_true rfl)) dX6_copy_9 ⟨Nat.zero_le _, Nat.zero_le _⟩) (fun H locs hw => ?_)
  rw [hs1]
  refine W.eq (g2 := F0 m 12 ls [.ref q_T]) rfl ?_
  refine lv_astore (lv' := [(7, .ref q_T), (6, .ref q_S), (0, .ref q_t), (1, .int p1), (2, .int p2), (3, .int p3), (4, .int p4), (5, .int p5)]) hx hb dX6_copy_12 hl (by decide) rfl (fun ls hl => ?_)
  refine lv_aload hx hb dX6_copy_14 (lv_at hl 1 rfl) ?_
  refine lv_ifnull hx hb dX6_copy_16 ?_
  refine lv_aload hx hb dX6_copy_19 (lv_at hl 0 rfl) ?_
  refine lv_ifnonnull (tgt := 27) hx hb dX6_copy_21 (by decide) ?_
  refine lv_aload hx hb dX6_copy_27 (lv_at hl 1 rfl) ?_
  refine g_getN (ci := 4) (C := RX4) (T := TX4) (N := 4) S hinX4 hK hN hw 2 1 nw_X6_189 dX6_copy_29 rfl rfl (by decide) rfl ?_
  refine lv_if_ne (tgt := 43) hx hb dX6_copy_32 (by decide) (fun c1 => ?_) (fun c1 => ?_)
  · have hf := (if_neg c1).symm.trans hf
    refine lv_aload_n hx hb dX6_copy_43 rfl (lv_at hl 2 rfl) ?_
    refine lv_iconst (v := (1 : Int32)) hx hb dX6_copy_44 (by decide) ?_
    obtain ⟨r2, u3, h4, hf⟩ := bd2_some hf
    refine cl_i (wr := [(q_t_sheets, .inl (cO, 4, .inr (.inr (.inr (.inr t_sheets))))), (q_S, .inr (4, [.ref q_S_items, .int S_lost, .int S_form, .int S_size])), (q_S_items, .inl (cI, 100, .inl S_items)), (q_T, .inr (4, [.ref q_T_items, .int T_lost, .int T_form, .int T_size])), (q_T_items, .inl (cI, 100, .inl T_items))]) (ws' := [(q_t, .inr (6, [.ref q_t_theRow, .ref q_t_pairs, .ref q_t_latestStrings, .ref q_t_leapStrings, .ref q_t_theRing, .ref q_t_trial, .ref q_t_sheets, .int t_moves, .int u3])), (q_t_sheets, .inl (cO, 4, .inr (.inr (.inr (.inr t_sheets))))), (q_S, .inr (4, [.ref q_S_items, .int S_lost, .int S_form, .int S_size])), (q_S_items, .inl (cI, 100, .inl S_items)), (q_T, .inr (4, [.ref q_T_items, .int T_lost, .int T_form, .int T_size])), (q_T_items, .inl (cI, 100, .inl T_items))]) hA hw [0] [1, 2, 3, 4, 5] [5, 0, 1, 2, 3, 4] rfl rfl rfl (by decide) rfl rfl (va_runV (As := [.int (1 : Int32)]) (rest := []) S (c_X6_find l D cI cZ cJ cO _ q_t q_t_theRow q_t_pairs q_t_latestStrings q_t_leapStrings q_t_theRing q_t_trial q_t_sheets N (1 : Int32) t_moves t_latestFinding r2 u3 h4) (cwV 1 hts gX6_copy_X6_find rfl rfl rfl (by decide +kernel) ⟨Nat.le_of_ble_eq_true rfl, Nat.le_of_ble_eq_true rfl⟩) (pre_V hK hN hw [0] rfl rfl (C := RX6) (T := TX6) (N := 9) (ci := 6) (q0 := 0) rfl rfl) rfl rfl hl.1 rfl (lv_room (Nat.le_of_ble_eq_true rfl)) dX6_copy_45 ⟨Nat.zero_le _, Nat.zero_le _⟩) (fun H locs hw => ?_)
    obtain ⟨rfl, rfl, rfl⟩ := pr3 (Option.some.inj hf)
    exact rt_i S hr hlk hw dX6_copy_48
  · have hf := (if_pos c1).symm.trans hf
    refine lv_aload hx hb dX6_copy_35 (lv_at hl 0 rfl) ?_
    refine g_getN (ci := 4) (C := RX4) (T := TX4) (N := 4) S hinX4 hK hN hw 4 1 nw_X6_189 dX6_copy_37 rfl rfl (by decide) rfl ?_
    refine lv_if_eq (tgt := 49) hx hb dX6_copy_40 (by decide) (fun c5 => ?_) (fun c5 => ?_)
    · have hf := (if_pos c5).symm.trans hf
      refine lv_aload hx hb dX6_copy_49 (lv_at hl 1 rfl) ?_
      refine g_getN (ci := 4) (C := RX4) (T := TX4) (N := 4) S hinX4 hK hN hw 2 2 nw_X6_202 dX6_copy_51 rfl rfl (by decide) rfl ?_
      refine lv_aload hx hb dX6_copy_54 (lv_at hl 0 rfl) ?_
      refine g_getN (ci := 4) (C := RX4) (T := TX4) (N := 4) S hinX4 hK hN hw 4 2 nw_X6_202 dX6_copy_56 rfl rfl (by decide) rfl ?_
      refine lv_icmp_eq (tgt := 68) hx hb dX6_copy_59 (by decide) (fun c6 => ?_) (fun c6 => ?_)
      · have hf := (if_pos c6).symm.trans hf
        refine lv_aload hx hb dX6_copy_68 (lv_at hl 1 rfl) ?_
        refine lv_iload_n hx hb dX6_copy_70 rfl (lv_at hl 4 rfl) ?_
        refine lv_iload hx hb dX6_copy_71 (lv_at hl 7 rfl) ?_
        obtain ⟨r7, h8, hf⟩ := bd1_some hf
        refine cl_i (wr := [(q_t, .inr (6, [.ref q_t_theRow, .ref q_t_pairs, .ref q_t_latestStrings, .ref q_t_leapStrings, .ref q_t_theRing, .ref q_t_trial, .ref q_t_sheets, .int t_moves, .int t_latestFinding])), (q_t_sheets, .inl (cO, 4, .inr (.inr (.inr (.inr t_sheets))))), (q_S_items, .inl (cI, 100, .inl S_items)), (q_T, .inr (4, [.ref q_T_items, .int T_lost, .int T_form, .int T_size])), (q_T_items, .inl (cI, 100, .inl T_items))]) (ws' := [(q_t, .inr (6, [.ref q_t_theRow, .ref q_t_pairs, .ref q_t_latestStrings, .ref q_t_leapStrings, .ref q_t_theRing, .ref q_t_trial, .ref q_t_sheets, .int t_moves, .int t_latestFinding])), (q_t_sheets, .inl (cO, 4, .inr (.inr (.inr (.inr t_sheets))))), (q_S, .inr (4, [.ref q_S_items, .int S_lost, .int S_form, .int S_size])), (q_S_items, .inl (cI, 100, .inl S_items)), (q_T, .inr (4, [.ref q_T_items, .int T_lost, .int T_form, .int T_size])), (q_T_items, .inl (cI, 100, .inl T_items))]) hA hw [2] [0, 1, 3, 4, 5] [0, 1, 5, 2, 3, 4] rfl rfl rfl (by decide) rfl rfl (va_runV (As := [.int p2, .int p5]) (rest := []) S (c_X4_hasItems l D cI cZ cJ cO _ q_S q_S_items N p2 p5 S_lost S_form S_size r7 h8) (cwV 2 hts gX6_copy_X4_hasItems rfl rfl rfl (by decide +kernel) ⟨Nat.le_of_ble_eq_true rfl, Nat.le_of_ble_eq_true rfl⟩) (pre_V hK hN hw [2] rfl rfl (C := RX4) (T := TX4) (N := 4) (ci := 4) (q0 := 0) rfl rfl) rfl rfl hl.1 rfl (lv_room (Nat.le_of_ble_eq_true rfl)) dX6_copy_73 ⟨Nat.zero_le _, Nat.zero_le _⟩) (fun H locs hw => ?_)
        refine lv_if_eq (tgt := 91) hx hb dX6_copy_76 (by decide) (fun c9 => ?_) (fun c9 => ?_)
        · have hf := (if_pos c9).symm.trans hf
          refine lv_aload_n hx hb dX6_copy_91 rfl (lv_at hl 2 rfl) ?_
          refine lv_iconst (v := (2 : Int32)) hx hb dX6_copy_92 (by decide) ?_
          obtain ⟨r10, u11, h12, hf⟩ := bd2_some hf
          refine cl_i (wr := [(q_t_sheets, .inl (cO, 4, .inr (.inr (.inr (.inr t_sheets))))), (q_S, .inr (4, [.ref q_S_items, .int S_lost, .int S_form, .int S_size])), (q_S_items, .inl (cI, 100, .inl S_items)), (q_T, .inr (4, [.ref q_T_items, .int T_lost, .int T_form, .int T_size])), (q_T_items, .inl (cI, 100, .inl T_items))]) (ws' := [(q_t, .inr (6, [.ref q_t_theRow, .ref q_t_pairs, .ref q_t_latestStrings, .ref q_t_leapStrings, .ref q_t_theRing, .ref q_t_trial, .ref q_t_sheets, .int t_moves, .int u11])), (q_t_sheets, .inl (cO, 4, .inr (.inr (.inr (.inr t_sheets))))), (q_S, .inr (4, [.ref q_S_items, .int S_lost, .int S_form, .int S_size])), (q_S_items, .inl (cI, 100, .inl S_items)), (q_T, .inr (4, [.ref q_T_items, .int T_lost, .int T_form, .int T_size])), (q_T_items, .inl (cI, 100, .inl T_items))]) hA hw [0] [1, 2, 3, 4, 5] [5, 0, 1, 2, 3, 4] rfl rfl rfl (by decide) rfl rfl (va_runV (As := [.int (2 : Int32)]) (rest := []) S (c_X6_find l D cI cZ cJ cO _ q_t q_t_theRow q_t_pairs q_t_latestStrings q_t_leapStrings q_t_theRing q_t_trial q_t_sheets N (2 : Int32) t_moves t_latestFinding r10 u11 h12) (cwV 1 hts gX6_copy_X6_find rfl rfl rfl (by decide +kernel) ⟨Nat.le_of_ble_eq_true rfl, Nat.le_of_ble_eq_true rfl⟩) (pre_V hK hN hw [0] rfl rfl (C := RX6) (T := TX6) (N := 9) (ci := 6) (q0 := 0) rfl rfl) rfl rfl hl.1 rfl (lv_room (Nat.le_of_ble_eq_true rfl)) dX6_copy_93 ⟨Nat.zero_le _, Nat.zero_le _⟩) (fun H locs hw => ?_)
          obtain ⟨rfl, rfl, rfl⟩ := pr3 (Option.some.inj hf)
          exact rt_i S hr hlk hw dX6_copy_96
        · have hf := (if_neg c9).symm.trans hf
          refine lv_aload hx hb dX6_copy_79 (lv_at hl 0 rfl) ?_
          refine lv_iload hx hb dX6_copy_81 (lv_at hl 6 rfl) ?_
          refine lv_iload hx hb dX6_copy_83 (lv_at hl 7 rfl) ?_
          obtain ⟨r13, h14, hf⟩ := bd1_some hf
          refine cl_i (wr := [(q_t, .inr (6, [.ref q_t_theRow, .ref q_t_pairs, .ref q_t_latestStrings, .ref q_t_leapStrings, .ref q_t_theRing, .ref q_t_trial, .ref q_t_sheets, .int t_moves, .int t_latestFinding])), (q_t_sheets, .inl (cO, 4, .inr (.inr (.inr (.inr t_sheets))))), (q_S, .inr (4, [.ref q_S_items, .int S_lost, .int S_form, .int S_size])), (q_S_items, .inl (cI, 100, .inl S_items)), (q_T_items, .inl (cI, 100, .inl T_items))]) (ws' := [(q_t, .inr (6, [.ref q_t_theRow, .ref q_t_pairs, .ref q_t_latestStrings, .ref q_t_leapStrings, .ref q_t_theRing, .ref q_t_trial, .ref q_t_sheets, .int t_moves, .int t_latestFinding])), (q_t_sheets, .inl (cO, 4, .inr (.inr (.inr (.inr t_sheets))))), (q_S, .inr (4, [.ref q_S_items, .int S_lost, .int S_form, .int S_size])), (q_S_items, .inl (cI, 100, .inl S_items)), (q_T, .inr (4, [.ref q_T_items, .int T_lost, .int T_form, .int T_size])), (q_T_items, .inl (cI, 100, .inl T_items))]) hA hw [4] [0, 1, 2, 3, 5] [0, 1, 2, 3, 5, 4] rfl rfl rfl (by decide) rfl rfl (va_runV (As := [.int p4, .int p5]) (rest := []) S (c_X4_hasItems l D cI cZ cJ cO _ q_T q_T_items N p4 p5 T_lost T_form T_size r13 h14) (cwV 2 hts gX6_copy_X4_hasItems rfl rfl rfl (by decide +kernel) ⟨Nat.le_of_ble_eq_true rfl, Nat.le_of_ble_eq_true rfl⟩) (pre_V hK hN hw [4] rfl rfl (C := RX4) (T := TX4) (N := 4) (ci := 4) (q0 := 0) rfl rfl) rfl rfl hl.1 rfl (lv_room (Nat.le_of_ble_eq_true rfl)) dX6_copy_85 ⟨Nat.zero_le _, Nat.zero_le _⟩) (fun H locs hw => ?_)
          refine lv_if_ne (tgt := 97) hx hb dX6_copy_88 (by decide) (fun c15 => ?_) (fun c15 => ?_)
          · have hf := (if_neg c15).symm.trans hf
            refine lv_aload hx hb dX6_copy_97 (lv_at hl 1 rfl) ?_
            refine g_getN (ci := 4) (C := RX4) (T := TX4) (N := 4) S hinX4 hK hN hw 2 0 nw_X6_208 dX6_copy_99 rfl rfl (by decide) rfl ?_
            refine lv_iload_n hx hb dX6_copy_102 rfl (lv_at hl 4 rfl) ?_
            refine lv_aload hx hb dX6_copy_103 (lv_at hl 0 rfl) ?_
            refine g_getN (ci := 4) (C := RX4) (T := TX4) (N := 4) S hinX4 hK hN hw 4 0 nw_X6_208 dX6_copy_105 rfl rfl (by decide) rfl ?_
            refine lv_iload hx hb dX6_copy_108 (lv_at hl 6 rfl) ?_
            refine lv_iload hx hb dX6_copy_110 (lv_at hl 7 rfl) ?_
            obtain ⟨b16, hf⟩ := ck_some hf
            refine va_copyi (ty := .int) hx hb (S.2.2.1.trans hl.1.symm) S.2.2.2.1 (hts (.methodLink RX6 212 arraycopyName) (by decide +kernel)) (hts (.native arraycopyName) (by decide +kernel)) (hts (.static arraycopyName) (by decide +kernel)) (hts (.initialized "java/lang/System") (by decide +kernel)) hK hw.1 hw.2.1 hw.2.2 3 5 0 0 rfl rfl rfl rfl rfl (cpok_1 b16) (cpok_2 b16) (cpok_3 b16) (cpok_4 b16) (cpok_5 b16) (fun _ _ => rfl) (Nat.le_of_ble_eq_true rfl) (Nat.le_of_ble_eq_true rfl) dX6_copy_112 (fun H locs h1 h2 h3 => ?_)
            have hw : Wd D A s.heap [(q_t, .inr (6, [.ref q_t_theRow, .ref q_t_pairs, .ref q_t_latestStrings, .ref q_t_leapStrings, .ref q_t_theRing, .ref q_t_trial, .ref q_t_sheets, .int t_moves, .int t_latestFinding])), (q_t_sheets, .inl (cO, 4, .inr (.inr (.inr (.inr t_sheets))))), (q_S, .inr (4, [.ref q_S_items, .int S_lost, .int S_form, .int S_size])), (q_S_items, .inl (cI, 100, .inl S_items)), (q_T, .inr (4, [.ref q_T_items, .int T_lost, .int T_form, .int T_size])), (q_T_items, .inl (cI, 100, .inl (va_cpy S_items T_items p2.toNatClampNeg p4.toNatClampNeg p5.toNatClampNeg)))] H locs := ⟨h1, h2, h3⟩
            refine lv_iconst (v := (1 : Int32)) hx hb dX6_copy_115 (by decide) ?_
            obtain ⟨rfl, rfl, rfl⟩ := pr3 (Option.some.inj hf)
            exact rt_i S hr hlk hw dX6_copy_116
          · have hf := (if_pos c15).symm.trans hf
            refine lv_aload_n hx hb dX6_copy_91 rfl (lv_at hl 2 rfl) ?_
            refine lv_iconst (v := (2 : Int32)) hx hb dX6_copy_92 (by decide) ?_
            obtain ⟨r17, u18, h19, hf⟩ := bd2_some hf
            refine cl_i (wr := [(q_t_sheets, .inl (cO, 4, .inr (.inr (.inr (.inr t_sheets))))), (q_S, .inr (4, [.ref q_S_items, .int S_lost, .int S_form, .int S_size])), (q_S_items, .inl (cI, 100, .inl S_items)), (q_T, .inr (4, [.ref q_T_items, .int T_lost, .int T_form, .int T_size])), (q_T_items, .inl (cI, 100, .inl T_items))]) (ws' := [(q_t, .inr (6, [.ref q_t_theRow, .ref q_t_pairs, .ref q_t_latestStrings, .ref q_t_leapStrings, .ref q_t_theRing, .ref q_t_trial, .ref q_t_sheets, .int t_moves, .int u18])), (q_t_sheets, .inl (cO, 4, .inr (.inr (.inr (.inr t_sheets))))), (q_S, .inr (4, [.ref q_S_items, .int S_lost, .int S_form, .int S_size])), (q_S_items, .inl (cI, 100, .inl S_items)), (q_T, .inr (4, [.ref q_T_items, .int T_lost, .int T_form, .int T_size])), (q_T_items, .inl (cI, 100, .inl T_items))]) hA hw [0] [1, 2, 3, 4, 5] [5, 0, 1, 2, 3, 4] rfl rfl rfl (by decide) rfl rfl (va_runV (As := [.int (2 : Int32)]) (rest := []) S (c_X6_find l D cI cZ cJ cO _ q_t q_t_theRow q_t_pairs q_t_latestStrings q_t_leapStrings q_t_theRing q_t_trial q_t_sheets N (2 : Int32) t_moves t_latestFinding r17 u18 h19) (cwV 1 hts gX6_copy_X6_find rfl rfl rfl (by decide +kernel) ⟨Nat.le_of_ble_eq_true rfl, Nat.le_of_ble_eq_true rfl⟩) (pre_V hK hN hw [0] rfl rfl (C := RX6) (T := TX6) (N := 9) (ci := 6) (q0 := 0) rfl rfl) rfl rfl hl.1 rfl (lv_room (Nat.le_of_ble_eq_true rfl)) dX6_copy_93 ⟨Nat.zero_le _, Nat.zero_le _⟩) (fun H locs hw => ?_)
            obtain ⟨rfl, rfl, rfl⟩ := pr3 (Option.some.inj hf)
            exact rt_i S hr hlk hw dX6_copy_96
      · have hf := (if_neg c6).symm.trans hf
        refine lv_aload_n hx hb dX6_copy_62 rfl (lv_at hl 2 rfl) ?_
        refine lv_iconst (v := (4 : Int32)) hx hb dX6_copy_63 (by decide) ?_
        obtain ⟨r20, u21, h22, hf⟩ := bd2_some hf
        refine cl_i (wr := [(q_t_sheets, .inl (cO, 4, .inr (.inr (.inr (.inr t_sheets))))), (q_S, .inr (4, [.ref q_S_items, .int S_lost, .int S_form, .int S_size])), (q_S_items, .inl (cI, 100, .inl S_items)), (q_T, .inr (4, [.ref q_T_items, .int T_lost, .int T_form, .int T_size])), (q_T_items, .inl (cI, 100, .inl T_items))]) (ws' := [(q_t, .inr (6, [.ref q_t_theRow, .ref q_t_pairs, .ref q_t_latestStrings, .ref q_t_leapStrings, .ref q_t_theRing, .ref q_t_trial, .ref q_t_sheets, .int t_moves, .int u21])), (q_t_sheets, .inl (cO, 4, .inr (.inr (.inr (.inr t_sheets))))), (q_S, .inr (4, [.ref q_S_items, .int S_lost, .int S_form, .int S_size])), (q_S_items, .inl (cI, 100, .inl S_items)), (q_T, .inr (4, [.ref q_T_items, .int T_lost, .int T_form, .int T_size])), (q_T_items, .inl (cI, 100, .inl T_items))]) hA hw [0] [1, 2, 3, 4, 5] [5, 0, 1, 2, 3, 4] rfl rfl rfl (by decide) rfl rfl (va_runV (As := [.int (4 : Int32)]) (rest := []) S (c_X6_find l D cI cZ cJ cO _ q_t q_t_theRow q_t_pairs q_t_latestStrings q_t_leapStrings q_t_theRing q_t_trial q_t_sheets N (4 : Int32) t_moves t_latestFinding r20 u21 h22) (cwV 1 hts gX6_copy_X6_find rfl rfl rfl (by decide +kernel) ⟨Nat.le_of_ble_eq_true rfl, Nat.le_of_ble_eq_true rfl⟩) (pre_V hK hN hw [0] rfl rfl (C := RX6) (T := TX6) (N := 9) (ci := 6) (q0 := 0) rfl rfl) rfl rfl hl.1 rfl (lv_room (Nat.le_of_ble_eq_true rfl)) dX6_copy_64 ⟨Nat.zero_le _, Nat.zero_le _⟩) (fun H locs hw => ?_)
        obtain ⟨rfl, rfl, rfl⟩ := pr3 (Option.some.inj hf)
        exact rt_i S hr hlk hw dX6_copy_67
    · have hf := (if_neg c5).symm.trans hf
      refine lv_aload_n hx hb dX6_copy_43 rfl (lv_at hl 2 rfl) ?_
      refine lv_iconst (v := (1 : Int32)) hx hb dX6_copy_44 (by decide) ?_
      obtain ⟨r23, u24, h25, hf⟩ := bd2_some hf
      refine cl_i (wr := [(q_t_sheets, .inl (cO, 4, .inr (.inr (.inr (.inr t_sheets))))), (q_S, .inr (4, [.ref q_S_items, .int S_lost, .int S_form, .int S_size])), (q_S_items, .inl (cI, 100, .inl S_items)), (q_T, .inr (4, [.ref q_T_items, .int T_lost, .int T_form, .int T_size])), (q_T_items, .inl (cI, 100, .inl T_items))]) (ws' := [(q_t, .inr (6, [.ref q_t_theRow, .ref q_t_pairs, .ref q_t_latestStrings, .ref q_t_leapStrings, .ref q_t_theRing, .ref q_t_trial, .ref q_t_sheets, .int t_moves, .int u24])), (q_t_sheets, .inl (cO, 4, .inr (.inr (.inr (.inr t_sheets))))), (q_S, .inr (4, [.ref q_S_items, .int S_lost, .int S_form, .int S_size])), (q_S_items, .inl (cI, 100, .inl S_items)), (q_T, .inr (4, [.ref q_T_items, .int T_lost, .int T_form, .int T_size])), (q_T_items, .inl (cI, 100, .inl T_items))]) hA hw [0] [1, 2, 3, 4, 5] [5, 0, 1, 2, 3, 4] rfl rfl rfl (by decide) rfl rfl (va_runV (As := [.int (1 : Int32)]) (rest := []) S (c_X6_find l D cI cZ cJ cO _ q_t q_t_theRow q_t_pairs q_t_latestStrings q_t_leapStrings q_t_theRing q_t_trial q_t_sheets N (1 : Int32) t_moves t_latestFinding r23 u24 h25) (cwV 1 hts gX6_copy_X6_find rfl rfl rfl (by decide +kernel) ⟨Nat.le_of_ble_eq_true rfl, Nat.le_of_ble_eq_true rfl⟩) (pre_V hK hN hw [0] rfl rfl (C := RX6) (T := TX6) (N := 9) (ci := 6) (q0 := 0) rfl rfl) rfl rfl hl.1 rfl (lv_room (Nat.le_of_ble_eq_true rfl)) dX6_copy_45 ⟨Nat.zero_le _, Nat.zero_le _⟩) (fun H locs hw => ?_)
      obtain ⟨rfl, rfl, rfl⟩ := pr3 (Option.some.inj hf)
      exact rt_i S hr hlk hw dX6_copy_48

def f_X6_copy_S_S (N : Nat) (p1 : Int32) (p2 : Int32) (p3 : Int32) (p4 : Int32) (p5 : Int32) (t_latestFinding : Int32) (t_sheets : (Nat → Option Nat)) (S_lost : Int32) (S_form : Int32) (S_size : Int32) (S_items : (Nat → Int32)) : Option (Int32 × Int32 × (Nat → Int32)) :=
  (if S_lost = (0 : Int32) then (if S_lost = (0 : Int32) then (if S_form = S_form then (bd1 (f_X4_hasItems N p2 p5 S_size) (fun r7 => (if r7 = (0 : Int32) then (bd2 (f_X6_find N (2 : Int32) t_latestFinding) (fun r10 u11 => (some (r10, u11, S_items)))) else (bd1 (f_X4_hasItems N p4 p5 S_size) (fun r13 => (if r13 = (0 : Int32) then (bd2 (f_X6_find N (2 : Int32) t_latestFinding) (fun r17 u18 => (some (r17, u18, S_items)))) else (ck (cpok p2 p4 p5 100 100) (some ((1 : Int32), t_latestFinding, (va_cpy S_items S_items p2.toNatClampNeg p4.toNatClampNeg p5.toNatClampNeg)))))))))) else (bd2 (f_X6_find N (4 : Int32) t_latestFinding) (fun r20 u21 => (some (r20, u21, S_items))))) else (bd2 (f_X6_find N (1 : Int32) t_latestFinding) (fun r23 u24 => (some (r23, u24, S_items))))) else (bd2 (f_X6_find N (1 : Int32) t_latestFinding) (fun r2 u3 => (some (r2, u3, S_items)))))

set_option maxHeartbeats 4000000 in
set_option maxRecDepth 100000 in
theorem c_X6_copy_S_S (l : Launch) (D : va_G) (cI cZ cJ cO : ClassId) (sz : Nat) (q_t q_t_theRow q_t_pairs q_t_latestStrings q_t_leapStrings q_t_theRing q_t_trial q_t_sheets q_S q_S_items : Nat) (N : Nat) (p1 : Int32) (p2 : Int32) (p3 : Int32) (p4 : Int32) (p5 : Int32) (t_moves : Int32) (t_latestFinding : Int32) (t_sheets : (Nat → Option Nat)) (S_lost : Int32) (S_form : Int32) (S_size : Int32) (S_items : (Nat → Int32)) (r : Int32) (o_t_latestFinding : Int32) (o_S_items : (Nat → Int32)) (hs0 : shOf p1 t_sheets = some q_S) (hs1 : shOf p3 t_sheets = some q_S) (hf : f_X6_copy_S_S N p1 p2 p3 p4 p5 t_latestFinding t_sheets S_lost S_form S_size S_items = some (r, o_t_latestFinding, o_S_items)) : Met l yX6_copy wsX6_copy ({ frames := 1, cells := 0, slots := 0, locals := 64 }) (PreC D (TY cI cZ cJ cO) [.ref q_t, .int p1, .int p2, .int p3, .int p4, .int p5] [(q_t, .inr (6, [.ref q_t_theRow, .ref q_t_pairs, .ref q_t_latestStrings, .ref q_t_leapStrings, .ref q_t_theRing, .ref q_t_trial, .ref q_t_sheets, .int t_moves, .int t_latestFinding])), (q_t_sheets, .inl (cO, 4, .inr (.inr (.inr (.inr t_sheets))))), (q_S, .inr (4, [.ref q_S_items, .int S_lost, .int S_form, .int S_size])), (q_S_items, .inl (cI, 100, .inl S_items))] sz) (QcI D [(q_t, .inr (6, [.ref q_t_theRow, .ref q_t_pairs, .ref q_t_latestStrings, .ref q_t_leapStrings, .ref q_t_theRing, .ref q_t_trial, .ref q_t_sheets, .int t_moves, .int o_t_latestFinding])), (q_t_sheets, .inl (cO, 4, .inr (.inr (.inr (.inr t_sheets))))), (q_S, .inr (4, [.ref q_S_items, .int S_lost, .int S_form, .int S_size])), (q_S_items, .inl (cI, 100, .inl o_S_items))] (va_A [(q_t, .inr (6, [.ref q_t_theRow, .ref q_t_pairs, .ref q_t_latestStrings, .ref q_t_leapStrings, .ref q_t_theRing, .ref q_t_trial, .ref q_t_sheets, .int t_moves, .int t_latestFinding])), (q_t_sheets, .inl (cO, 4, .inr (.inr (.inr (.inr t_sheets))))), (q_S, .inr (4, [.ref q_S_items, .int S_lost, .int S_form, .int S_size])), (q_S_items, .inl (cI, 100, .inl S_items))] sz) r) 0 0 (va_A [(q_t, .inr (6, [.ref q_t_theRow, .ref q_t_pairs, .ref q_t_latestStrings, .ref q_t_leapStrings, .ref q_t_theRing, .ref q_t_trial, .ref q_t_sheets, .int t_moves, .int t_latestFinding])), (q_t_sheets, .inl (cO, 4, .inr (.inr (.inr (.inr t_sheets))))), (q_S, .inr (4, [.ref q_S_items, .int S_lost, .int S_form, .int S_size])), (q_S_items, .inl (cI, 100, .inl S_items))] sz) := by
  refine ctr (cc := cX6_copy) (maxL := 8) (ret := (some .int)) (by decide) rfl (Nat.le_of_ble_eq_true rfl) ?_
  intro p e s m below meth c S hr hlk hnm hK hN hsz hA hw ls hl
  generalize va_A [(q_t, .inr (6, [.ref q_t_theRow, .ref q_t_pairs, .ref q_t_latestStrings, .ref q_t_leapStrings, .ref q_t_theRing, .ref q_t_trial, .ref q_t_sheets, .int t_moves, .int t_latestFinding])), (q_t_sheets, .inl (cO, 4, .inr (.inr (.inr (.inr t_sheets))))), (q_S, .inr (4, [.ref q_S_items, .int S_lost, .int S_form, .int S_size])), (q_S_items, .inl (cI, 100, .inl S_items))] sz = A at hA hw ⊢
  have S : CallFix p m c cX6_copy 8 s ([.ref q_t, .int p1, .int p2, .int p3, .int p4, .int p5] : List Value).toArray wsX6_copy RX6 := S
  have hx := S.1
  have hb := S.2.1
  have hts := S.2.2.2.2
  have hl : lv_has ls 8 [(0, .ref q_t), (1, .int p1), (2, .int p2), (3, .int p3), (4, .int p4), (5, .int p5)] := hl
  have hinX4 : ∀ w ∈ u_ws RX4 TX4 4, w ∈ wsX6_copy := by decide +kernel
  unfold f_X6_copy_S_S at hf
  refine lv_aload_n hx hb dX6_copy_0 rfl (lv_at hl 0 rfl) ?_
  refine lv_iload_n hx hb dX6_copy_1 rfl (lv_at hl 1 rfl) ?_
  refine cl_q (wr := [(q_S, .inr (4, [.ref q_S_items, .int S_lost, .int S_form, .int S_size])), (q_S_items, .inl (cI, 100, .inl S_items))]) (ws' := [(q_t, .inr (6, [.ref q_t_theRow, .ref q_t_pairs, .ref q_t_latestStrings, .ref q_t_leapStrings, .ref q_t_theRing, .ref q_t_trial, .ref q_t_sheets, .int t_moves, .int t_latestFinding])), (q_t_sheets, .inl (cO, 4, .inr (.inr (.inr (.inr t_sheets))))), (q_S, .inr (4, [.ref q_S_items, .int S_lost, .int S_form, .int S_size])), (q_S_items, .inl (cI, 100, .inl S_items))]) hA hw [0, 1] [2, 3] [2, 3, 0, 1] rfl rfl rfl (by decide) rfl rfl (va_runV (As := [.int p1]) (rest := []) S (c_X6_sheetOf l D cI cZ cJ cO _ q_t_theRow q_t_pairs q_t_latestStrings q_t_leapStrings q_t_theRing q_t_trial q_t_sheets t_moves t_latestFinding q_t t_sheets p1) (cwV 1 hts gX6_copy_X6_sheetOf rfl rfl rfl (by decide +kernel) ⟨Nat.le_of_ble_eq_true rfl, Nat.le_of_ble_eq_true rfl⟩) (pre_V hK hN hw [0, 1] rfl rfl (C := RX6) (T := TX6) (N := 9) (ci := 6) (q0 := 0) rfl rfl) rfl rfl hl.1 rfl (lv_room (Nat.le_of_ble_eq_true rfl)) dX6_copy_2 ⟨Nat.zero_le _, Nat.zero_le _⟩) (fun H locs hw => ?_)
  rw [hs0]
  refine W.eq (g2 := F0 m 5 ls [.ref q_S]) rfl ?_
  refine lv_astore (lv' := [(6, .ref q_S), (0, .ref q_t), (1, .int p1), (2, .int p2), (3, .int p3), (4, .int p4), (5, .int p5)]) hx hb dX6_copy_5 hl (by decide) rfl (fun ls hl => ?_)
  refine lv_aload_n hx hb dX6_copy_7 rfl (lv_at hl 1 rfl) ?_
  refine lv_iload_n hx hb dX6_copy_8 rfl (lv_at hl 4 rfl) ?_
  refine cl_q (wr := [(q_S, .inr (4, [.ref q_S_items, .int S_lost, .int S_form, .int S_size])), (q_S_items, .inl (cI, 100, .inl S_items))]) (ws' := [(q_t, .inr (6, [.ref q_t_theRow, .ref q_t_pairs, .ref q_t_latestStrings, .ref q_t_leapStrings, .ref q_t_theRing, .ref q_t_trial, .ref q_t_sheets, .int t_moves, .int t_latestFinding])), (q_t_sheets, .inl (cO, 4, .inr (.inr (.inr (.inr t_sheets))))), (q_S, .inr (4, [.ref q_S_items, .int S_lost, .int S_form, .int S_size])), (q_S_items, .inl (cI, 100, .inl S_items))]) hA hw [0, 1] [2, 3] [2, 3, 0, 1] rfl rfl rfl (by decide) rfl rfl (va_runV (As := [.int p3]) (rest := []) S (c_X6_sheetOf l D cI cZ cJ cO _ q_t_theRow q_t_pairs q_t_latestStrings q_t_leapStrings q_t_theRing q_t_trial q_t_sheets t_moves t_latestFinding q_t t_sheets p3) (cwV 1 hts gX6_copy_X6_sheetOf rfl rfl rfl (by decide +kernel) ⟨Nat.le_of_ble_eq_true rfl, Nat.le_of_ble_eq_true rfl⟩) (pre_V hK hN hw [0, 1] rfl rfl (C := RX6) (T := TX6) (N := 9) (ci := 6) (q0 := 0) rfl rfl) rfl rfl hl.1 rfl (lv_room (Nat.le_of_ble_eq_true rfl)) dX6_copy_9 ⟨Nat.zero_le _, Nat.zero_le _⟩) (fun H locs hw => ?_)
  rw [hs1]
  refine W.eq (g2 := F0 m 12 ls [.ref q_S]) rfl ?_
  refine lv_astore (lv' := [(7, .ref q_S), (6, .ref q_S), (0, .ref q_t), (1, .int p1), (2, .int p2), (3, .int p3), (4, .int p4), (5, .int p5)]) hx hb dX6_copy_12 hl (by decide) rfl (fun ls hl => ?_)
  refine lv_aload hx hb dX6_copy_14 (lv_at hl 1 rfl) ?_
  refine lv_ifnull hx hb dX6_copy_16 ?_
  refine lv_aload hx hb dX6_copy_19 (lv_at hl 0 rfl) ?_
  refine lv_ifnonnull (tgt := 27) hx hb dX6_copy_21 (by decide) ?_
  refine lv_aload hx hb dX6_copy_27 (lv_at hl 1 rfl) ?_
  refine g_getN (ci := 4) (C := RX4) (T := TX4) (N := 4) S hinX4 hK hN hw 2 1 nw_X6_189 dX6_copy_29 rfl rfl (by decide) rfl ?_
  refine lv_if_ne (tgt := 43) hx hb dX6_copy_32 (by decide) (fun c1 => ?_) (fun c1 => ?_)
  · have hf := (if_neg c1).symm.trans hf
    refine lv_aload_n hx hb dX6_copy_43 rfl (lv_at hl 2 rfl) ?_
    refine lv_iconst (v := (1 : Int32)) hx hb dX6_copy_44 (by decide) ?_
    obtain ⟨r2, u3, h4, hf⟩ := bd2_some hf
    refine cl_i (wr := [(q_t_sheets, .inl (cO, 4, .inr (.inr (.inr (.inr t_sheets))))), (q_S, .inr (4, [.ref q_S_items, .int S_lost, .int S_form, .int S_size])), (q_S_items, .inl (cI, 100, .inl S_items))]) (ws' := [(q_t, .inr (6, [.ref q_t_theRow, .ref q_t_pairs, .ref q_t_latestStrings, .ref q_t_leapStrings, .ref q_t_theRing, .ref q_t_trial, .ref q_t_sheets, .int t_moves, .int u3])), (q_t_sheets, .inl (cO, 4, .inr (.inr (.inr (.inr t_sheets))))), (q_S, .inr (4, [.ref q_S_items, .int S_lost, .int S_form, .int S_size])), (q_S_items, .inl (cI, 100, .inl S_items))]) hA hw [0] [1, 2, 3] [3, 0, 1, 2] rfl rfl rfl (by decide) rfl rfl (va_runV (As := [.int (1 : Int32)]) (rest := []) S (c_X6_find l D cI cZ cJ cO _ q_t q_t_theRow q_t_pairs q_t_latestStrings q_t_leapStrings q_t_theRing q_t_trial q_t_sheets N (1 : Int32) t_moves t_latestFinding r2 u3 h4) (cwV 1 hts gX6_copy_X6_find rfl rfl rfl (by decide +kernel) ⟨Nat.le_of_ble_eq_true rfl, Nat.le_of_ble_eq_true rfl⟩) (pre_V hK hN hw [0] rfl rfl (C := RX6) (T := TX6) (N := 9) (ci := 6) (q0 := 0) rfl rfl) rfl rfl hl.1 rfl (lv_room (Nat.le_of_ble_eq_true rfl)) dX6_copy_45 ⟨Nat.zero_le _, Nat.zero_le _⟩) (fun H locs hw => ?_)
    obtain ⟨rfl, rfl, rfl⟩ := pr3 (Option.some.inj hf)
    exact rt_i S hr hlk hw dX6_copy_48
  · have hf := (if_pos c1).symm.trans hf
    refine lv_aload hx hb dX6_copy_35 (lv_at hl 0 rfl) ?_
    refine g_getN (ci := 4) (C := RX4) (T := TX4) (N := 4) S hinX4 hK hN hw 2 1 nw_X6_189 dX6_copy_37 rfl rfl (by decide) rfl ?_
    refine lv_if_eq (tgt := 49) hx hb dX6_copy_40 (by decide) (fun c5 => ?_) (fun c5 => ?_)
    · have hf := (if_pos c5).symm.trans hf
      refine lv_aload hx hb dX6_copy_49 (lv_at hl 1 rfl) ?_
      refine g_getN (ci := 4) (C := RX4) (T := TX4) (N := 4) S hinX4 hK hN hw 2 2 nw_X6_202 dX6_copy_51 rfl rfl (by decide) rfl ?_
      refine lv_aload hx hb dX6_copy_54 (lv_at hl 0 rfl) ?_
      refine g_getN (ci := 4) (C := RX4) (T := TX4) (N := 4) S hinX4 hK hN hw 2 2 nw_X6_202 dX6_copy_56 rfl rfl (by decide) rfl ?_
      refine lv_icmp_eq (tgt := 68) hx hb dX6_copy_59 (by decide) (fun c6 => ?_) (fun c6 => ?_)
      · have hf := (if_pos c6).symm.trans hf
        refine lv_aload hx hb dX6_copy_68 (lv_at hl 1 rfl) ?_
        refine lv_iload_n hx hb dX6_copy_70 rfl (lv_at hl 4 rfl) ?_
        refine lv_iload hx hb dX6_copy_71 (lv_at hl 7 rfl) ?_
        obtain ⟨r7, h8, hf⟩ := bd1_some hf
        refine cl_i (wr := [(q_t, .inr (6, [.ref q_t_theRow, .ref q_t_pairs, .ref q_t_latestStrings, .ref q_t_leapStrings, .ref q_t_theRing, .ref q_t_trial, .ref q_t_sheets, .int t_moves, .int t_latestFinding])), (q_t_sheets, .inl (cO, 4, .inr (.inr (.inr (.inr t_sheets))))), (q_S_items, .inl (cI, 100, .inl S_items))]) (ws' := [(q_t, .inr (6, [.ref q_t_theRow, .ref q_t_pairs, .ref q_t_latestStrings, .ref q_t_leapStrings, .ref q_t_theRing, .ref q_t_trial, .ref q_t_sheets, .int t_moves, .int t_latestFinding])), (q_t_sheets, .inl (cO, 4, .inr (.inr (.inr (.inr t_sheets))))), (q_S, .inr (4, [.ref q_S_items, .int S_lost, .int S_form, .int S_size])), (q_S_items, .inl (cI, 100, .inl S_items))]) hA hw [2] [0, 1, 3] [0, 1, 3, 2] rfl rfl rfl (by decide) rfl rfl (va_runV (As := [.int p2, .int p5]) (rest := []) S (c_X4_hasItems l D cI cZ cJ cO _ q_S q_S_items N p2 p5 S_lost S_form S_size r7 h8) (cwV 2 hts gX6_copy_X4_hasItems rfl rfl rfl (by decide +kernel) ⟨Nat.le_of_ble_eq_true rfl, Nat.le_of_ble_eq_true rfl⟩) (pre_V hK hN hw [2] rfl rfl (C := RX4) (T := TX4) (N := 4) (ci := 4) (q0 := 0) rfl rfl) rfl rfl hl.1 rfl (lv_room (Nat.le_of_ble_eq_true rfl)) dX6_copy_73 ⟨Nat.zero_le _, Nat.zero_le _⟩) (fun H locs hw => ?_)
        refine lv_if_eq (tgt := 91) hx hb dX6_copy_76 (by decide) (fun c9 => ?_) (fun c9 => ?_)
        · have hf := (if_pos c9).symm.trans hf
          refine lv_aload_n hx hb dX6_copy_91 rfl (lv_at hl 2 rfl) ?_
          refine lv_iconst (v := (2 : Int32)) hx hb dX6_copy_92 (by decide) ?_
          obtain ⟨r10, u11, h12, hf⟩ := bd2_some hf
          refine cl_i (wr := [(q_t_sheets, .inl (cO, 4, .inr (.inr (.inr (.inr t_sheets))))), (q_S, .inr (4, [.ref q_S_items, .int S_lost, .int S_form, .int S_size])), (q_S_items, .inl (cI, 100, .inl S_items))]) (ws' := [(q_t, .inr (6, [.ref q_t_theRow, .ref q_t_pairs, .ref q_t_latestStrings, .ref q_t_leapStrings, .ref q_t_theRing, .ref q_t_trial, .ref q_t_sheets, .int t_moves, .int u11])), (q_t_sheets, .inl (cO, 4, .inr (.inr (.inr (.inr t_sheets))))), (q_S, .inr (4, [.ref q_S_items, .int S_lost, .int S_form, .int S_size])), (q_S_items, .inl (cI, 100, .inl S_items))]) hA hw [0] [1, 2, 3] [3, 0, 1, 2] rfl rfl rfl (by decide) rfl rfl (va_runV (As := [.int (2 : Int32)]) (rest := []) S (c_X6_find l D cI cZ cJ cO _ q_t q_t_theRow q_t_pairs q_t_latestStrings q_t_leapStrings q_t_theRing q_t_trial q_t_sheets N (2 : Int32) t_moves t_latestFinding r10 u11 h12) (cwV 1 hts gX6_copy_X6_find rfl rfl rfl (by decide +kernel) ⟨Nat.le_of_ble_eq_true rfl, Nat.le_of_ble_eq_true rfl⟩) (pre_V hK hN hw [0] rfl rfl (C := RX6) (T := TX6) (N := 9) (ci := 6) (q0 := 0) rfl rfl) rfl rfl hl.1 rfl (lv_room (Nat.le_of_ble_eq_true rfl)) dX6_copy_93 ⟨Nat.zero_le _, Nat.zero_le _⟩) (fun H locs hw => ?_)
          obtain ⟨rfl, rfl, rfl⟩ := pr3 (Option.some.inj hf)
          exact rt_i S hr hlk hw dX6_copy_96
        · have hf := (if_neg c9).symm.trans hf
          refine lv_aload hx hb dX6_copy_79 (lv_at hl 0 rfl) ?_
          refine lv_iload hx hb dX6_copy_81 (lv_at hl 6 rfl) ?_
          refine lv_iload hx hb dX6_copy_83 (lv_at hl 7 rfl) ?_
          obtain ⟨r13, h14, hf⟩ := bd1_some hf
          refine cl_i (wr := [(q_t, .inr (6, [.ref q_t_theRow, .ref q_t_pairs, .ref q_t_latestStrings, .ref q_t_leapStrings, .ref q_t_theRing, .ref q_t_trial, .ref q_t_sheets, .int t_moves, .int t_latestFinding])), (q_t_sheets, .inl (cO, 4, .inr (.inr (.inr (.inr t_sheets))))), (q_S_items, .inl (cI, 100, .inl S_items))]) (ws' := [(q_t, .inr (6, [.ref q_t_theRow, .ref q_t_pairs, .ref q_t_latestStrings, .ref q_t_leapStrings, .ref q_t_theRing, .ref q_t_trial, .ref q_t_sheets, .int t_moves, .int t_latestFinding])), (q_t_sheets, .inl (cO, 4, .inr (.inr (.inr (.inr t_sheets))))), (q_S, .inr (4, [.ref q_S_items, .int S_lost, .int S_form, .int S_size])), (q_S_items, .inl (cI, 100, .inl S_items))]) hA hw [2] [0, 1, 3] [0, 1, 3, 2] rfl rfl rfl (by decide) rfl rfl (va_runV (As := [.int p4, .int p5]) (rest := []) S (c_X4_hasItems l D cI cZ cJ cO _ q_S q_S_items N p4 p5 S_lost S_form S_size r13 h14) (cwV 2 hts gX6_copy_X4_hasItems rfl rfl rfl (by decide +kernel) ⟨Nat.le_of_ble_eq_true rfl, Nat.le_of_ble_eq_true rfl⟩) (pre_V hK hN hw [2] rfl rfl (C := RX4) (T := TX4) (N := 4) (ci := 4) (q0 := 0) rfl rfl) rfl rfl hl.1 rfl (lv_room (Nat.le_of_ble_eq_true rfl)) dX6_copy_85 ⟨Nat.zero_le _, Nat.zero_le _⟩) (fun H locs hw => ?_)
          refine lv_if_ne (tgt := 97) hx hb dX6_copy_88 (by decide) (fun c15 => ?_) (fun c15 => ?_)
          · have hf := (if_neg c15).symm.trans hf
            refine lv_aload hx hb dX6_copy_97 (lv_at hl 1 rfl) ?_
            refine g_getN (ci := 4) (C := RX4) (T := TX4) (N := 4) S hinX4 hK hN hw 2 0 nw_X6_208 dX6_copy_99 rfl rfl (by decide) rfl ?_
            refine lv_iload_n hx hb dX6_copy_102 rfl (lv_at hl 4 rfl) ?_
            refine lv_aload hx hb dX6_copy_103 (lv_at hl 0 rfl) ?_
            refine g_getN (ci := 4) (C := RX4) (T := TX4) (N := 4) S hinX4 hK hN hw 2 0 nw_X6_208 dX6_copy_105 rfl rfl (by decide) rfl ?_
            refine lv_iload hx hb dX6_copy_108 (lv_at hl 6 rfl) ?_
            refine lv_iload hx hb dX6_copy_110 (lv_at hl 7 rfl) ?_
            obtain ⟨b16, hf⟩ := ck_some hf
            refine va_copyi (ty := .int) hx hb (S.2.2.1.trans hl.1.symm) S.2.2.2.1 (hts (.methodLink RX6 212 arraycopyName) (by decide +kernel)) (hts (.native arraycopyName) (by decide +kernel)) (hts (.static arraycopyName) (by decide +kernel)) (hts (.initialized "java/lang/System") (by decide +kernel)) hK hw.1 hw.2.1 hw.2.2 3 3 0 0 rfl rfl rfl rfl rfl (cpok_1 b16) (cpok_2 b16) (cpok_3 b16) (cpok_4 b16) (cpok_5 b16) (fun _ _ => rfl) (Nat.le_of_ble_eq_true rfl) (Nat.le_of_ble_eq_true rfl) dX6_copy_112 (fun H locs h1 h2 h3 => ?_)
            have hw : Wd D A s.heap [(q_t, .inr (6, [.ref q_t_theRow, .ref q_t_pairs, .ref q_t_latestStrings, .ref q_t_leapStrings, .ref q_t_theRing, .ref q_t_trial, .ref q_t_sheets, .int t_moves, .int t_latestFinding])), (q_t_sheets, .inl (cO, 4, .inr (.inr (.inr (.inr t_sheets))))), (q_S, .inr (4, [.ref q_S_items, .int S_lost, .int S_form, .int S_size])), (q_S_items, .inl (cI, 100, .inl (va_cpy S_items S_items p2.toNatClampNeg p4.toNatClampNeg p5.toNatClampNeg)))] H locs := ⟨h1, h2, h3⟩
            refine lv_iconst (v := (1 : Int32)) hx hb dX6_copy_115 (by decide) ?_
            obtain ⟨rfl, rfl, rfl⟩ := pr3 (Option.some.inj hf)
            exact rt_i S hr hlk hw dX6_copy_116
          · have hf := (if_pos c15).symm.trans hf
            refine lv_aload_n hx hb dX6_copy_91 rfl (lv_at hl 2 rfl) ?_
            refine lv_iconst (v := (2 : Int32)) hx hb dX6_copy_92 (by decide) ?_
            obtain ⟨r17, u18, h19, hf⟩ := bd2_some hf
            refine cl_i (wr := [(q_t_sheets, .inl (cO, 4, .inr (.inr (.inr (.inr t_sheets))))), (q_S, .inr (4, [.ref q_S_items, .int S_lost, .int S_form, .int S_size])), (q_S_items, .inl (cI, 100, .inl S_items))]) (ws' := [(q_t, .inr (6, [.ref q_t_theRow, .ref q_t_pairs, .ref q_t_latestStrings, .ref q_t_leapStrings, .ref q_t_theRing, .ref q_t_trial, .ref q_t_sheets, .int t_moves, .int u18])), (q_t_sheets, .inl (cO, 4, .inr (.inr (.inr (.inr t_sheets))))), (q_S, .inr (4, [.ref q_S_items, .int S_lost, .int S_form, .int S_size])), (q_S_items, .inl (cI, 100, .inl S_items))]) hA hw [0] [1, 2, 3] [3, 0, 1, 2] rfl rfl rfl (by decide) rfl rfl (va_runV (As := [.int (2 : Int32)]) (rest := []) S (c_X6_find l D cI cZ cJ cO _ q_t q_t_theRow q_t_pairs q_t_latestStrings q_t_leapStrings q_t_theRing q_t_trial q_t_sheets N (2 : Int32) t_moves t_latestFinding r17 u18 h19) (cwV 1 hts gX6_copy_X6_find rfl rfl rfl (by decide +kernel) ⟨Nat.le_of_ble_eq_true rfl, Nat.le_of_ble_eq_true rfl⟩) (pre_V hK hN hw [0] rfl rfl (C := RX6) (T := TX6) (N := 9) (ci := 6) (q0 := 0) rfl rfl) rfl rfl hl.1 rfl (lv_room (Nat.le_of_ble_eq_true rfl)) dX6_copy_93 ⟨Nat.zero_le _, Nat.zero_le _⟩) (fun H locs hw => ?_)
            obtain ⟨rfl, rfl, rfl⟩ := pr3 (Option.some.inj hf)
            exact rt_i S hr hlk hw dX6_copy_96
      · have hf := (if_neg c6).symm.trans hf
        refine lv_aload_n hx hb dX6_copy_62 rfl (lv_at hl 2 rfl) ?_
        refine lv_iconst (v := (4 : Int32)) hx hb dX6_copy_63 (by decide) ?_
        obtain ⟨r20, u21, h22, hf⟩ := bd2_some hf
        refine cl_i (wr := [(q_t_sheets, .inl (cO, 4, .inr (.inr (.inr (.inr t_sheets))))), (q_S, .inr (4, [.ref q_S_items, .int S_lost, .int S_form, .int S_size])), (q_S_items, .inl (cI, 100, .inl S_items))]) (ws' := [(q_t, .inr (6, [.ref q_t_theRow, .ref q_t_pairs, .ref q_t_latestStrings, .ref q_t_leapStrings, .ref q_t_theRing, .ref q_t_trial, .ref q_t_sheets, .int t_moves, .int u21])), (q_t_sheets, .inl (cO, 4, .inr (.inr (.inr (.inr t_sheets))))), (q_S, .inr (4, [.ref q_S_items, .int S_lost, .int S_form, .int S_size])), (q_S_items, .inl (cI, 100, .inl S_items))]) hA hw [0] [1, 2, 3] [3, 0, 1, 2] rfl rfl rfl (by decide) rfl rfl (va_runV (As := [.int (4 : Int32)]) (rest := []) S (c_X6_find l D cI cZ cJ cO _ q_t q_t_theRow q_t_pairs q_t_latestStrings q_t_leapStrings q_t_theRing q_t_trial q_t_sheets N (4 : Int32) t_moves t_latestFinding r20 u21 h22) (cwV 1 hts gX6_copy_X6_find rfl rfl rfl (by decide +kernel) ⟨Nat.le_of_ble_eq_true rfl, Nat.le_of_ble_eq_true rfl⟩) (pre_V hK hN hw [0] rfl rfl (C := RX6) (T := TX6) (N := 9) (ci := 6) (q0 := 0) rfl rfl) rfl rfl hl.1 rfl (lv_room (Nat.le_of_ble_eq_true rfl)) dX6_copy_64 ⟨Nat.zero_le _, Nat.zero_le _⟩) (fun H locs hw => ?_)
        obtain ⟨rfl, rfl, rfl⟩ := pr3 (Option.some.inj hf)
        exact rt_i S hr hlk hw dX6_copy_67
    · have hf := (if_neg c5).symm.trans hf
      refine lv_aload_n hx hb dX6_copy_43 rfl (lv_at hl 2 rfl) ?_
      refine lv_iconst (v := (1 : Int32)) hx hb dX6_copy_44 (by decide) ?_
      obtain ⟨r23, u24, h25, hf⟩ := bd2_some hf
      refine cl_i (wr := [(q_t_sheets, .inl (cO, 4, .inr (.inr (.inr (.inr t_sheets))))), (q_S, .inr (4, [.ref q_S_items, .int S_lost, .int S_form, .int S_size])), (q_S_items, .inl (cI, 100, .inl S_items))]) (ws' := [(q_t, .inr (6, [.ref q_t_theRow, .ref q_t_pairs, .ref q_t_latestStrings, .ref q_t_leapStrings, .ref q_t_theRing, .ref q_t_trial, .ref q_t_sheets, .int t_moves, .int u24])), (q_t_sheets, .inl (cO, 4, .inr (.inr (.inr (.inr t_sheets))))), (q_S, .inr (4, [.ref q_S_items, .int S_lost, .int S_form, .int S_size])), (q_S_items, .inl (cI, 100, .inl S_items))]) hA hw [0] [1, 2, 3] [3, 0, 1, 2] rfl rfl rfl (by decide) rfl rfl (va_runV (As := [.int (1 : Int32)]) (rest := []) S (c_X6_find l D cI cZ cJ cO _ q_t q_t_theRow q_t_pairs q_t_latestStrings q_t_leapStrings q_t_theRing q_t_trial q_t_sheets N (1 : Int32) t_moves t_latestFinding r23 u24 h25) (cwV 1 hts gX6_copy_X6_find rfl rfl rfl (by decide +kernel) ⟨Nat.le_of_ble_eq_true rfl, Nat.le_of_ble_eq_true rfl⟩) (pre_V hK hN hw [0] rfl rfl (C := RX6) (T := TX6) (N := 9) (ci := 6) (q0 := 0) rfl rfl) rfl rfl hl.1 rfl (lv_room (Nat.le_of_ble_eq_true rfl)) dX6_copy_45 ⟨Nat.zero_le _, Nat.zero_le _⟩) (fun H locs hw => ?_)
      obtain ⟨rfl, rfl, rfl⟩ := pr3 (Option.some.inj hf)
      exact rt_i S hr hlk hw dX6_copy_48

def f_X6_load_n (_ : Nat) (p1 : Int32) (p2 : Int32) (t_sheets : (Nat → Option Nat)) : Option (Int32) :=
  (some (-2 : Int32))

set_option maxHeartbeats 4000000 in
set_option maxRecDepth 100000 in
theorem c_X6_load_n (l : Launch) (D : va_G) (cI cZ cJ cO : ClassId) (sz : Nat) (q_t q_t_theRow q_t_pairs q_t_latestStrings q_t_leapStrings q_t_theRing q_t_trial q_t_sheets : Nat) (N : Nat) (p1 : Int32) (p2 : Int32) (t_moves : Int32) (t_latestFinding : Int32) (t_sheets : (Nat → Option Nat)) (r : Int32) (hs0 : shOf p1 t_sheets = none) (hf : f_X6_load_n N p1 p2 t_sheets = some r) : Met l yX6_load wsX6_load ({ frames := 1, cells := 0, slots := 0, locals := 21 }) (PreC D (TY cI cZ cJ cO) [.ref q_t, .int p1, .int p2] [(q_t, .inr (6, [.ref q_t_theRow, .ref q_t_pairs, .ref q_t_latestStrings, .ref q_t_leapStrings, .ref q_t_theRing, .ref q_t_trial, .ref q_t_sheets, .int t_moves, .int t_latestFinding])), (q_t_sheets, .inl (cO, 4, .inr (.inr (.inr (.inr t_sheets)))))] sz) (QcI D [(q_t, .inr (6, [.ref q_t_theRow, .ref q_t_pairs, .ref q_t_latestStrings, .ref q_t_leapStrings, .ref q_t_theRing, .ref q_t_trial, .ref q_t_sheets, .int t_moves, .int t_latestFinding])), (q_t_sheets, .inl (cO, 4, .inr (.inr (.inr (.inr t_sheets)))))] (va_A [(q_t, .inr (6, [.ref q_t_theRow, .ref q_t_pairs, .ref q_t_latestStrings, .ref q_t_leapStrings, .ref q_t_theRing, .ref q_t_trial, .ref q_t_sheets, .int t_moves, .int t_latestFinding])), (q_t_sheets, .inl (cO, 4, .inr (.inr (.inr (.inr t_sheets)))))] sz) r) 0 0 (va_A [(q_t, .inr (6, [.ref q_t_theRow, .ref q_t_pairs, .ref q_t_latestStrings, .ref q_t_leapStrings, .ref q_t_theRing, .ref q_t_trial, .ref q_t_sheets, .int t_moves, .int t_latestFinding])), (q_t_sheets, .inl (cO, 4, .inr (.inr (.inr (.inr t_sheets)))))] sz) := by
  refine ctr (cc := cX6_load) (maxL := 5) (ret := (some .int)) (by decide) rfl (Nat.le_of_ble_eq_true rfl) ?_
  intro p e s m below meth c S hr hlk hnm hK hN hsz hA hw ls hl
  generalize va_A [(q_t, .inr (6, [.ref q_t_theRow, .ref q_t_pairs, .ref q_t_latestStrings, .ref q_t_leapStrings, .ref q_t_theRing, .ref q_t_trial, .ref q_t_sheets, .int t_moves, .int t_latestFinding])), (q_t_sheets, .inl (cO, 4, .inr (.inr (.inr (.inr t_sheets)))))] sz = A at hA hw ⊢
  have S : CallFix p m c cX6_load 5 s ([.ref q_t, .int p1, .int p2] : List Value).toArray wsX6_load RX6 := S
  have hx := S.1
  have hb := S.2.1
  have hts := S.2.2.2.2
  have hl : lv_has ls 5 [(0, .ref q_t), (1, .int p1), (2, .int p2)] := hl
  unfold f_X6_load_n at hf
  refine lv_aload_n hx hb dX6_load_0 rfl (lv_at hl 0 rfl) ?_
  refine lv_iload_n hx hb dX6_load_1 rfl (lv_at hl 1 rfl) ?_
  refine cl_q (wr := []) (ws' := [(q_t, .inr (6, [.ref q_t_theRow, .ref q_t_pairs, .ref q_t_latestStrings, .ref q_t_leapStrings, .ref q_t_theRing, .ref q_t_trial, .ref q_t_sheets, .int t_moves, .int t_latestFinding])), (q_t_sheets, .inl (cO, 4, .inr (.inr (.inr (.inr t_sheets)))))]) hA hw [0, 1] [] [0, 1] rfl rfl rfl (by decide) rfl rfl (va_runV (As := [.int p1]) (rest := []) S (c_X6_sheetOf l D cI cZ cJ cO _ q_t_theRow q_t_pairs q_t_latestStrings q_t_leapStrings q_t_theRing q_t_trial q_t_sheets t_moves t_latestFinding q_t t_sheets p1) (cwV 1 hts gX6_load_X6_sheetOf rfl rfl rfl (by decide +kernel) ⟨Nat.le_of_ble_eq_true rfl, Nat.le_of_ble_eq_true rfl⟩) (pre_V hK hN hw [0, 1] rfl rfl (C := RX6) (T := TX6) (N := 9) (ci := 6) (q0 := 0) rfl rfl) rfl rfl hl.1 rfl (lv_room (Nat.le_of_ble_eq_true rfl)) dX6_load_2 ⟨Nat.zero_le _, Nat.zero_le _⟩) (fun H locs hw => ?_)
  rw [hs0]
  refine W.eq (g2 := F0 m 5 ls [.null]) rfl ?_
  refine lv_astore_nN (lv' := [(3, .null), (0, .ref q_t), (1, .int p1), (2, .int p2)]) hx hb dX6_load_5 rfl hl (by decide) rfl (fun ls hl => ?_)
  refine lv_aload_nN hx hb dX6_load_6 rfl (lv_at hl 0 rfl) ?_
  refine lv_ifnullN (tgt := 17) hx hb dX6_load_7 (by decide) ?_
  refine lv_bipush (v := (-2 : Int32)) hx hb dX6_load_17 (by decide) ?_
  obtain rfl := Option.some.inj hf
  exact rt_i S hr hlk hw dX6_load_19

def L_X6_load_S_54 (N : Nat) (x2 : Int32) (S_size : Int32) (S_items : (Nat → Int32)) (K : (Nat → Int32) → Option (Int32 × Int32 × (Nat → Int32))) : Nat → Int32 → (Nat → Int32) → Option (Int32 × Int32 × (Nat → Int32))
  | 0, _, _ => none
  | n + 1, x4, w_t_theRow_boxes => (if S_size ≤ x4 then (K w_t_theRow_boxes) else (bd1 (f_X4_itemAt N x4 S_size S_items) (fun r7 => (if r7 ≤ (0 : Int32) then (bd1 (f_X3_place N (x2 + x4) (0 : Int32) w_t_theRow_boxes) (fun u10 => (L_X6_load_S_54 N x2 S_size S_items K n (x4 + (1 : Int32)) u10))) else (bd1 (f_X3_place N (x2 + x4) (1 : Int32) w_t_theRow_boxes) (fun u12 => (L_X6_load_S_54 N x2 S_size S_items K n (x4 + (1 : Int32)) u12)))))))

def f_X6_load_S (N : Nat) (p1 : Int32) (p2 : Int32) (t_latestFinding : Int32) (t_theRow_boxes : (Nat → Int32)) (t_sheets : (Nat → Option Nat)) (S_lost : Int32) (S_size : Int32) (S_items : (Nat → Int32)) : Option (Int32 × Int32 × (Nat → Int32)) :=
  (bd1 (f_X6_isBox N p2) (fun r1 => (if r1 = (0 : Int32) then (some ((-2 : Int32), t_latestFinding, t_theRow_boxes)) else (if S_lost = (0 : Int32) then (if (p2 + S_size) ≤ (240 : Int32) then (L_X6_load_S_54 N p2 S_size S_items (fun u14 => (some (S_size, t_latestFinding, u14))) N (0 : Int32) t_theRow_boxes) else (bd2 (f_X6_find N (2 : Int32) t_latestFinding) (fun r15 u16 => (some (r15, u16, t_theRow_boxes))))) else (bd2 (f_X6_find N (1 : Int32) t_latestFinding) (fun r18 u19 => (some (r18, u19, t_theRow_boxes))))))))

set_option maxHeartbeats 4000000 in
set_option maxRecDepth 100000 in
theorem c_X6_load_S (l : Launch) (D : va_G) (cI cZ cJ cO : ClassId) (sz : Nat) (q_t q_t_theRow q_t_pairs q_t_latestStrings q_t_leapStrings q_t_theRing q_t_trial q_t_sheets q_t_theRow_boxes q_t_theRow_made q_S q_S_items : Nat) (N : Nat) (p1 : Int32) (p2 : Int32) (t_moves : Int32) (t_latestFinding : Int32) (t_theRow_boxes : (Nat → Int32)) (t_sheets : (Nat → Option Nat)) (S_lost : Int32) (S_form : Int32) (S_size : Int32) (S_items : (Nat → Int32)) (r : Int32) (o_t_latestFinding : Int32) (o_t_theRow_boxes : (Nat → Int32)) (hs0 : shOf p1 t_sheets = some q_S) (hf : f_X6_load_S N p1 p2 t_latestFinding t_theRow_boxes t_sheets S_lost S_size S_items = some (r, o_t_latestFinding, o_t_theRow_boxes)) : Met l yX6_load wsX6_load ({ frames := 2, cells := 0, slots := 0, locals := 42 }) (PreC D (TY cI cZ cJ cO) [.ref q_t, .int p1, .int p2] [(q_t, .inr (6, [.ref q_t_theRow, .ref q_t_pairs, .ref q_t_latestStrings, .ref q_t_leapStrings, .ref q_t_theRing, .ref q_t_trial, .ref q_t_sheets, .int t_moves, .int t_latestFinding])), (q_t_theRow, .inr (3, [.ref q_t_theRow_boxes, .ref q_t_theRow_made])), (q_t_theRow_boxes, .inl (cI, 240, .inl t_theRow_boxes)), (q_t_sheets, .inl (cO, 4, .inr (.inr (.inr (.inr t_sheets))))), (q_S, .inr (4, [.ref q_S_items, .int S_lost, .int S_form, .int S_size])), (q_S_items, .inl (cI, 100, .inl S_items))] sz) (QcI D [(q_t, .inr (6, [.ref q_t_theRow, .ref q_t_pairs, .ref q_t_latestStrings, .ref q_t_leapStrings, .ref q_t_theRing, .ref q_t_trial, .ref q_t_sheets, .int t_moves, .int o_t_latestFinding])), (q_t_theRow, .inr (3, [.ref q_t_theRow_boxes, .ref q_t_theRow_made])), (q_t_theRow_boxes, .inl (cI, 240, .inl o_t_theRow_boxes)), (q_t_sheets, .inl (cO, 4, .inr (.inr (.inr (.inr t_sheets))))), (q_S, .inr (4, [.ref q_S_items, .int S_lost, .int S_form, .int S_size])), (q_S_items, .inl (cI, 100, .inl S_items))] (va_A [(q_t, .inr (6, [.ref q_t_theRow, .ref q_t_pairs, .ref q_t_latestStrings, .ref q_t_leapStrings, .ref q_t_theRing, .ref q_t_trial, .ref q_t_sheets, .int t_moves, .int t_latestFinding])), (q_t_theRow, .inr (3, [.ref q_t_theRow_boxes, .ref q_t_theRow_made])), (q_t_theRow_boxes, .inl (cI, 240, .inl t_theRow_boxes)), (q_t_sheets, .inl (cO, 4, .inr (.inr (.inr (.inr t_sheets))))), (q_S, .inr (4, [.ref q_S_items, .int S_lost, .int S_form, .int S_size])), (q_S_items, .inl (cI, 100, .inl S_items))] sz) r) 0 0 (va_A [(q_t, .inr (6, [.ref q_t_theRow, .ref q_t_pairs, .ref q_t_latestStrings, .ref q_t_leapStrings, .ref q_t_theRing, .ref q_t_trial, .ref q_t_sheets, .int t_moves, .int t_latestFinding])), (q_t_theRow, .inr (3, [.ref q_t_theRow_boxes, .ref q_t_theRow_made])), (q_t_theRow_boxes, .inl (cI, 240, .inl t_theRow_boxes)), (q_t_sheets, .inl (cO, 4, .inr (.inr (.inr (.inr t_sheets))))), (q_S, .inr (4, [.ref q_S_items, .int S_lost, .int S_form, .int S_size])), (q_S_items, .inl (cI, 100, .inl S_items))] sz) := by
  refine ctr (cc := cX6_load) (maxL := 5) (ret := (some .int)) (by decide) rfl (Nat.le_of_ble_eq_true rfl) ?_
  intro p e s m below meth c S hr hlk hnm hK hN hsz hA hw ls hl
  generalize va_A [(q_t, .inr (6, [.ref q_t_theRow, .ref q_t_pairs, .ref q_t_latestStrings, .ref q_t_leapStrings, .ref q_t_theRing, .ref q_t_trial, .ref q_t_sheets, .int t_moves, .int t_latestFinding])), (q_t_theRow, .inr (3, [.ref q_t_theRow_boxes, .ref q_t_theRow_made])), (q_t_theRow_boxes, .inl (cI, 240, .inl t_theRow_boxes)), (q_t_sheets, .inl (cO, 4, .inr (.inr (.inr (.inr t_sheets))))), (q_S, .inr (4, [.ref q_S_items, .int S_lost, .int S_form, .int S_size])), (q_S_items, .inl (cI, 100, .inl S_items))] sz = A at hA hw ⊢
  have S : CallFix p m c cX6_load 5 s ([.ref q_t, .int p1, .int p2] : List Value).toArray wsX6_load RX6 := S
  have hx := S.1
  have hb := S.2.1
  have hts := S.2.2.2.2
  have hl : lv_has ls 5 [(0, .ref q_t), (1, .int p1), (2, .int p2)] := hl
  have hinX4 : ∀ w ∈ u_ws RX4 TX4 4, w ∈ wsX6_load := by decide +kernel
  have hinX6 : ∀ w ∈ u_ws RX6 TX6 9, w ∈ wsX6_load := by decide +kernel
  have k10 : Cond.fieldLink RX6 10 "BallBoxes" "theRow" "LBallBoxes$Row;" ∈ wsX6_load := by decide +kernel
  have Lp54 : ∀ (x2 : Int32) (w_t_latestFinding : Int32) (K : (Nat → Int32) → Option (Int32 × Int32 × (Nat → Int32))), (∀ (z_t_theRow_boxes : (Nat → Int32)) (H : Heap) (locs : List Loc) (ls : Array Slot), Wd D A s.heap [(q_t, .inr (6, [.ref q_t_theRow, .ref q_t_pairs, .ref q_t_latestStrings, .ref q_t_leapStrings, .ref q_t_theRing, .ref q_t_trial, .ref q_t_sheets, .int t_moves, .int w_t_latestFinding])), (q_t_theRow, .inr (3, [.ref q_t_theRow_boxes, .ref q_t_theRow_made])), (q_t_theRow_boxes, .inl (cI, 240, .inl z_t_theRow_boxes)), (q_t_sheets, .inl (cO, 4, .inr (.inr (.inr (.inr t_sheets))))), (q_S, .inr (4, [.ref q_S_items, .int S_lost, .int S_form, .int S_size])), (q_S_items, .inl (cI, 100, .inl S_items))] H locs → lv_has ls 5 [(3, .ref q_S)] → K z_t_theRow_boxes = some (r, o_t_latestFinding, o_t_theRow_boxes) → W p l e ({ frames := 2, cells := 0, slots := 0, locals := 42 } : Room) s m ([.ref q_t, .int p1, .int p2] : List Value).toArray below meth c H locs 0 0 (MQ below (QcI D [(q_t, .inr (6, [.ref q_t_theRow, .ref q_t_pairs, .ref q_t_latestStrings, .ref q_t_leapStrings, .ref q_t_theRing, .ref q_t_trial, .ref q_t_sheets, .int t_moves, .int o_t_latestFinding])), (q_t_theRow, .inr (3, [.ref q_t_theRow_boxes, .ref q_t_theRow_made])), (q_t_theRow_boxes, .inl (cI, 240, .inl o_t_theRow_boxes)), (q_t_sheets, .inl (cO, 4, .inr (.inr (.inr (.inr t_sheets))))), (q_S, .inr (4, [.ref q_S_items, .int S_lost, .int S_form, .int S_size])), (q_S_items, .inl (cI, 100, .inl S_items))] A r) ([.ref q_t, .int p1, .int p2] : List Value).toArray s 0 0 A) (F0 m 94 ls [])) → ∀ (n : Nat) (x4 : Int32) (w_t_theRow_boxes : (Nat → Int32)) (H : Heap) (locs : List Loc) (ls : Array Slot), Wd D A s.heap [(q_t, .inr (6, [.ref q_t_theRow, .ref q_t_pairs, .ref q_t_latestStrings, .ref q_t_leapStrings, .ref q_t_theRing, .ref q_t_trial, .ref q_t_sheets, .int t_moves, .int w_t_latestFinding])), (q_t_theRow, .inr (3, [.ref q_t_theRow_boxes, .ref q_t_theRow_made])), (q_t_theRow_boxes, .inl (cI, 240, .inl w_t_theRow_boxes)), (q_t_sheets, .inl (cO, 4, .inr (.inr (.inr (.inr t_sheets))))), (q_S, .inr (4, [.ref q_S_items, .int S_lost, .int S_form, .int S_size])), (q_S_items, .inl (cI, 100, .inl S_items))] H locs → lv_has ls 5 [(0, .ref q_t), (2, .int x2), (3, .ref q_S), (4, .int x4)] → L_X6_load_S_54 N x2 S_size S_items K n x4 w_t_theRow_boxes = some (r, o_t_latestFinding, o_t_theRow_boxes) → W p l e ({ frames := 2, cells := 0, slots := 0, locals := 42 } : Room) s m ([.ref q_t, .int p1, .int p2] : List Value).toArray below meth c H locs 0 0 (MQ below (QcI D [(q_t, .inr (6, [.ref q_t_theRow, .ref q_t_pairs, .ref q_t_latestStrings, .ref q_t_leapStrings, .ref q_t_theRing, .ref q_t_trial, .ref q_t_sheets, .int t_moves, .int o_t_latestFinding])), (q_t_theRow, .inr (3, [.ref q_t_theRow_boxes, .ref q_t_theRow_made])), (q_t_theRow_boxes, .inl (cI, 240, .inl o_t_theRow_boxes)), (q_t_sheets, .inl (cO, 4, .inr (.inr (.inr (.inr t_sheets))))), (q_S, .inr (4, [.ref q_S_items, .int S_lost, .int S_form, .int S_size])), (q_S_items, .inl (cI, 100, .inl S_items))] A r) ([.ref q_t, .int p1, .int p2] : List Value).toArray s 0 0 A) (F0 m 54 ls []) := by
    intro x2 w_t_latestFinding K hKx n
    induction n with
    | zero =>
      intro x4 w_t_theRow_boxes H locs ls hw hl hf
      rw [L_X6_load_S_54] at hf
      cases hf
    | succ n ih =>
      intro x4 w_t_theRow_boxes H locs ls hw hl hf
      rw [L_X6_load_S_54] at hf
      refine lv_iload hx hb dX6_load_54 (lv_at hl 3 rfl) ?_
      refine lv_aload_n hx hb dX6_load_56 rfl (lv_at hl 2 rfl) ?_
      refine g_getN (ci := 4) (C := RX4) (T := TX4) (N := 4) S hinX4 hK hN hw 4 3 nw_X6_193 dX6_load_57 rfl rfl (by decide) rfl ?_
      refine lv_icmp_ge (tgt := 94) hx hb dX6_load_60 (by decide) (fun c6 => ?_) (fun c6 => ?_)
      · have hf := (if_pos c6).symm.trans hf
        exact hKx w_t_theRow_boxes _ _ _ hw (lv_sub hl [2] rfl) hf
      · have hf := (if_neg c6).symm.trans hf
        refine lv_aload_n hx hb dX6_load_63 rfl (lv_at hl 0 rfl) ?_
        refine g_get (ci := 6) (C := RX6) (T := TX6) (N := 9) S hinX6 hK hw 0 0 k10 dX6_load_64 rfl rfl (by decide) rfl ?_
        refine lv_iload_n hx hb dX6_load_67 rfl (lv_at hl 1 rfl) ?_
        refine lv_iload hx hb dX6_load_68 (lv_at hl 3 rfl) ?_
        refine lv_iadd hx hb dX6_load_70 ?_
        refine lv_aload_n hx hb dX6_load_71 rfl (lv_at hl 2 rfl) ?_
        refine lv_iload hx hb dX6_load_72 (lv_at hl 3 rfl) ?_
        obtain ⟨r7, h8, hf⟩ := bd1_some hf
        refine cl_i (wr := [(q_t, .inr (6, [.ref q_t_theRow, .ref q_t_pairs, .ref q_t_latestStrings, .ref q_t_leapStrings, .ref q_t_theRing, .ref q_t_trial, .ref q_t_sheets, .int t_moves, .int w_t_latestFinding])), (q_t_theRow, .inr (3, [.ref q_t_theRow_boxes, .ref q_t_theRow_made])), (q_t_theRow_boxes, .inl (cI, 240, .inl w_t_theRow_boxes)), (q_t_sheets, .inl (cO, 4, .inr (.inr (.inr (.inr t_sheets)))))]) (ws' := [(q_t, .inr (6, [.ref q_t_theRow, .ref q_t_pairs, .ref q_t_latestStrings, .ref q_t_leapStrings, .ref q_t_theRing, .ref q_t_trial, .ref q_t_sheets, .int t_moves, .int w_t_latestFinding])), (q_t_theRow, .inr (3, [.ref q_t_theRow_boxes, .ref q_t_theRow_made])), (q_t_theRow_boxes, .inl (cI, 240, .inl w_t_theRow_boxes)), (q_t_sheets, .inl (cO, 4, .inr (.inr (.inr (.inr t_sheets))))), (q_S, .inr (4, [.ref q_S_items, .int S_lost, .int S_form, .int S_size])), (q_S_items, .inl (cI, 100, .inl S_items))]) hA hw [4, 5] [0, 1, 2, 3] [0, 1, 2, 3, 4, 5] rfl rfl rfl (by decide) rfl rfl (va_runV (As := [.int x4]) (rest := [.int (x2 + x4), .ref q_t_theRow]) S (c_X4_itemAt l D cI cZ cJ cO _ q_S q_S_items N x4 S_lost S_form S_size S_items r7 h8) (cwV 1 hts gX6_load_X4_itemAt rfl rfl rfl (by decide +kernel) ⟨Nat.le_of_ble_eq_true rfl, Nat.le_of_ble_eq_true rfl⟩) (pre_V hK hN hw [4, 5] rfl rfl (C := RX4) (T := TX4) (N := 4) (ci := 4) (q0 := 0) rfl rfl) rfl rfl hl.1 rfl (lv_room (Nat.le_of_ble_eq_true rfl)) dX6_load_74 ⟨Nat.zero_le _, Nat.zero_le _⟩) (fun H locs hw => ?_)
        refine lv_if_le (tgt := 84) hx hb dX6_load_77 (by decide) (fun c9 => ?_) (fun c9 => ?_)
        · have hf := (if_pos c9).symm.trans hf
          refine lv_iconst (v := (0 : Int32)) hx hb dX6_load_84 (by decide) ?_
          obtain ⟨u10, h11, hf⟩ := bd1_some hf
          refine cl_v (wr := [(q_t, .inr (6, [.ref q_t_theRow, .ref q_t_pairs, .ref q_t_latestStrings, .ref q_t_leapStrings, .ref q_t_theRing, .ref q_t_trial, .ref q_t_sheets, .int t_moves, .int w_t_latestFinding])), (q_t_sheets, .inl (cO, 4, .inr (.inr (.inr (.inr t_sheets))))), (q_S, .inr (4, [.ref q_S_items, .int S_lost, .int S_form, .int S_size])), (q_S_items, .inl (cI, 100, .inl S_items))]) (ws' := [(q_t, .inr (6, [.ref q_t_theRow, .ref q_t_pairs, .ref q_t_latestStrings, .ref q_t_leapStrings, .ref q_t_theRing, .ref q_t_trial, .ref q_t_sheets, .int t_moves, .int w_t_latestFinding])), (q_t_theRow, .inr (3, [.ref q_t_theRow_boxes, .ref q_t_theRow_made])), (q_t_theRow_boxes, .inl (cI, 240, .inl u10)), (q_t_sheets, .inl (cO, 4, .inr (.inr (.inr (.inr t_sheets))))), (q_S, .inr (4, [.ref q_S_items, .int S_lost, .int S_form, .int S_size])), (q_S_items, .inl (cI, 100, .inl S_items))]) hA hw [1, 2] [0, 3, 4, 5] [0, 4, 5, 1, 2, 3] rfl rfl rfl (by decide) rfl rfl (va_runV (As := [.int (x2 + x4), .int (0 : Int32)]) (rest := []) S (c_X3_place l D cI cZ cJ cO _ q_t_theRow q_t_theRow_boxes q_t_theRow_made N (x2 + x4) (0 : Int32) w_t_theRow_boxes u10 h11) (cwV 2 hts gX6_load_X3_place rfl rfl rfl (by decide +kernel) ⟨Nat.le_of_ble_eq_true rfl, Nat.le_of_ble_eq_true rfl⟩) (pre_V hK hN hw [1, 2] rfl rfl (C := RX3) (T := TX3) (N := 2) (ci := 3) (q0 := 0) rfl rfl) rfl rfl hl.1 rfl (lv_room (Nat.le_of_ble_eq_true rfl)) dX6_load_85 ⟨Nat.zero_le _, Nat.zero_le _⟩) (fun H locs hw => ?_)
          refine lv_iinc (v := (x4 + (1 : Int32))) (lv' := [(4, .int (x4 + (1 : Int32))), (0, .ref q_t), (2, .int x2), (3, .ref q_S)]) hx hb dX6_load_88 hl (k := 3) rfl rfl (by decide) rfl (fun ls hl => ?_)
          refine lv_goto (tgt := 54) hx hb dX6_load_91 (by decide) ?_
          exact ih (x4 + (1 : Int32)) u10 _ _ _ hw (lv_sub hl [1, 2, 3, 0] rfl) hf
        · have hf := (if_neg c9).symm.trans hf
          refine lv_iconst (v := (1 : Int32)) hx hb dX6_load_80 (by decide) ?_
          refine lv_goto (tgt := 85) hx hb dX6_load_81 (by decide) ?_
          obtain ⟨u12, h13, hf⟩ := bd1_some hf
          refine cl_v (wr := [(q_t, .inr (6, [.ref q_t_theRow, .ref q_t_pairs, .ref q_t_latestStrings, .ref q_t_leapStrings, .ref q_t_theRing, .ref q_t_trial, .ref q_t_sheets, .int t_moves, .int w_t_latestFinding])), (q_t_sheets, .inl (cO, 4, .inr (.inr (.inr (.inr t_sheets))))), (q_S, .inr (4, [.ref q_S_items, .int S_lost, .int S_form, .int S_size])), (q_S_items, .inl (cI, 100, .inl S_items))]) (ws' := [(q_t, .inr (6, [.ref q_t_theRow, .ref q_t_pairs, .ref q_t_latestStrings, .ref q_t_leapStrings, .ref q_t_theRing, .ref q_t_trial, .ref q_t_sheets, .int t_moves, .int w_t_latestFinding])), (q_t_theRow, .inr (3, [.ref q_t_theRow_boxes, .ref q_t_theRow_made])), (q_t_theRow_boxes, .inl (cI, 240, .inl u12)), (q_t_sheets, .inl (cO, 4, .inr (.inr (.inr (.inr t_sheets))))), (q_S, .inr (4, [.ref q_S_items, .int S_lost, .int S_form, .int S_size])), (q_S_items, .inl (cI, 100, .inl S_items))]) hA hw [1, 2] [0, 3, 4, 5] [0, 4, 5, 1, 2, 3] rfl rfl rfl (by decide) rfl rfl (va_runV (As := [.int (x2 + x4), .int (1 : Int32)]) (rest := []) S (c_X3_place l D cI cZ cJ cO _ q_t_theRow q_t_theRow_boxes q_t_theRow_made N (x2 + x4) (1 : Int32) w_t_theRow_boxes u12 h13) (cwV 2 hts gX6_load_X3_place rfl rfl rfl (by decide +kernel) ⟨Nat.le_of_ble_eq_true rfl, Nat.le_of_ble_eq_true rfl⟩) (pre_V hK hN hw [1, 2] rfl rfl (C := RX3) (T := TX3) (N := 2) (ci := 3) (q0 := 0) rfl rfl) rfl rfl hl.1 rfl (lv_room (Nat.le_of_ble_eq_true rfl)) dX6_load_85 ⟨Nat.zero_le _, Nat.zero_le _⟩) (fun H locs hw => ?_)
          refine lv_iinc (v := (x4 + (1 : Int32))) (lv' := [(4, .int (x4 + (1 : Int32))), (0, .ref q_t), (2, .int x2), (3, .ref q_S)]) hx hb dX6_load_88 hl (k := 3) rfl rfl (by decide) rfl (fun ls hl => ?_)
          refine lv_goto (tgt := 54) hx hb dX6_load_91 (by decide) ?_
          exact ih (x4 + (1 : Int32)) u12 _ _ _ hw (lv_sub hl [1, 2, 3, 0] rfl) hf
  unfold f_X6_load_S at hf
  refine lv_aload_n hx hb dX6_load_0 rfl (lv_at hl 0 rfl) ?_
  refine lv_iload_n hx hb dX6_load_1 rfl (lv_at hl 1 rfl) ?_
  refine cl_q (wr := [(q_t_theRow, .inr (3, [.ref q_t_theRow_boxes, .ref q_t_theRow_made])), (q_t_theRow_boxes, .inl (cI, 240, .inl t_theRow_boxes)), (q_S, .inr (4, [.ref q_S_items, .int S_lost, .int S_form, .int S_size])), (q_S_items, .inl (cI, 100, .inl S_items))]) (ws' := [(q_t, .inr (6, [.ref q_t_theRow, .ref q_t_pairs, .ref q_t_latestStrings, .ref q_t_leapStrings, .ref q_t_theRing, .ref q_t_trial, .ref q_t_sheets, .int t_moves, .int t_latestFinding])), (q_t_theRow, .inr (3, [.ref q_t_theRow_boxes, .ref q_t_theRow_made])), (q_t_theRow_boxes, .inl (cI, 240, .inl t_theRow_boxes)), (q_t_sheets, .inl (cO, 4, .inr (.inr (.inr (.inr t_sheets))))), (q_S, .inr (4, [.ref q_S_items, .int S_lost, .int S_form, .int S_size])), (q_S_items, .inl (cI, 100, .inl S_items))]) hA hw [0, 3] [1, 2, 4, 5] [4, 0, 1, 5, 2, 3] rfl rfl rfl (by decide) rfl rfl (va_runV (As := [.int p1]) (rest := []) S (c_X6_sheetOf l D cI cZ cJ cO _ q_t_theRow q_t_pairs q_t_latestStrings q_t_leapStrings q_t_theRing q_t_trial q_t_sheets t_moves t_latestFinding q_t t_sheets p1) (cwV 1 hts gX6_load_X6_sheetOf rfl rfl rfl (by decide +kernel) ⟨Nat.le_of_ble_eq_true rfl, Nat.le_of_ble_eq_true rfl⟩) (pre_V hK hN hw [0, 3] rfl rfl (C := RX6) (T := TX6) (N := 9) (ci := 6) (q0 := 0) rfl rfl) rfl rfl hl.1 rfl (lv_room (Nat.le_of_ble_eq_true rfl)) dX6_load_2 ⟨Nat.zero_le _, Nat.zero_le _⟩) (fun H locs hw => ?_)
  rw [hs0]
  refine W.eq (g2 := F0 m 5 ls [.ref q_S]) rfl ?_
  refine lv_astore_n (lv' := [(3, .ref q_S), (0, .ref q_t), (1, .int p1), (2, .int p2)]) hx hb dX6_load_5 rfl hl (by decide) rfl (fun ls hl => ?_)
  refine lv_aload_n hx hb dX6_load_6 rfl (lv_at hl 0 rfl) ?_
  refine lv_ifnull hx hb dX6_load_7 ?_
  refine lv_iload_n hx hb dX6_load_10 rfl (lv_at hl 3 rfl) ?_
  obtain ⟨r1, h2, hf⟩ := bd1_some hf
  refine cl_i (wr := [(q_t, .inr (6, [.ref q_t_theRow, .ref q_t_pairs, .ref q_t_latestStrings, .ref q_t_leapStrings, .ref q_t_theRing, .ref q_t_trial, .ref q_t_sheets, .int t_moves, .int t_latestFinding])), (q_t_theRow, .inr (3, [.ref q_t_theRow_boxes, .ref q_t_theRow_made])), (q_t_theRow_boxes, .inl (cI, 240, .inl t_theRow_boxes)), (q_t_sheets, .inl (cO, 4, .inr (.inr (.inr (.inr t_sheets))))), (q_S, .inr (4, [.ref q_S_items, .int S_lost, .int S_form, .int S_size])), (q_S_items, .inl (cI, 100, .inl S_items))]) (ws' := [(q_t, .inr (6, [.ref q_t_theRow, .ref q_t_pairs, .ref q_t_latestStrings, .ref q_t_leapStrings, .ref q_t_theRing, .ref q_t_trial, .ref q_t_sheets, .int t_moves, .int t_latestFinding])), (q_t_theRow, .inr (3, [.ref q_t_theRow_boxes, .ref q_t_theRow_made])), (q_t_theRow_boxes, .inl (cI, 240, .inl t_theRow_boxes)), (q_t_sheets, .inl (cO, 4, .inr (.inr (.inr (.inr t_sheets))))), (q_S, .inr (4, [.ref q_S_items, .int S_lost, .int S_form, .int S_size])), (q_S_items, .inl (cI, 100, .inl S_items))]) hA hw [] [0, 1, 2, 3, 4, 5] [0, 1, 2, 3, 4, 5] rfl rfl rfl (by decide) rfl rfl (va_runS (As := [.int p2]) (rest := []) S (c_X6_isBox l D cI cZ cJ cO _ N p2 r1 h2) (va_cwS 1 hts gX6_load_X6_isBox rfl rfl rfl (by decide +kernel) ⟨Nat.le_of_ble_eq_true rfl, Nat.le_of_ble_eq_true rfl⟩) (pre_S hK hN hw [] rfl rfl) rfl rfl hl.1 rfl (lv_room (Nat.le_of_ble_eq_true rfl)) dX6_load_11 ⟨Nat.zero_le _, Nat.zero_le _⟩) (fun H locs hw => ?_)
  refine lv_if_ne (tgt := 20) hx hb dX6_load_14 (by decide) (fun c3 => ?_) (fun c3 => ?_)
  · have hf := (if_neg c3).symm.trans hf
    refine lv_aload_n hx hb dX6_load_20 rfl (lv_at hl 0 rfl) ?_
    refine g_getN (ci := 4) (C := RX4) (T := TX4) (N := 4) S hinX4 hK hN hw 4 1 nw_X6_189 dX6_load_21 rfl rfl (by decide) rfl ?_
    refine lv_if_eq (tgt := 33) hx hb dX6_load_24 (by decide) (fun c4 => ?_) (fun c4 => ?_)
    · have hf := (if_pos c4).symm.trans hf
      refine lv_iload_n hx hb dX6_load_33 rfl (lv_at hl 3 rfl) ?_
      refine lv_aload_n hx hb dX6_load_34 rfl (lv_at hl 0 rfl) ?_
      refine g_getN (ci := 4) (C := RX4) (T := TX4) (N := 4) S hinX4 hK hN hw 4 3 nw_X6_193 dX6_load_35 rfl rfl (by decide) rfl ?_
      refine lv_iadd hx hb dX6_load_38 ?_
      refine lv_sipush (v := (240 : Int32)) hx hb dX6_load_39 (by decide) ?_
      refine lv_icmp_le (tgt := 51) hx hb dX6_load_42 (by decide) (fun c5 => ?_) (fun c5 => ?_)
      · have hf := (if_pos c5).symm.trans hf
        refine lv_iconst (v := (0 : Int32)) hx hb dX6_load_51 (by decide) ?_
        refine lv_istore (lv' := [(4, .int (0 : Int32)), (3, .ref q_S), (0, .ref q_t), (1, .int p1), (2, .int p2)]) hx hb dX6_load_52 hl (by decide) rfl (fun ls hl => ?_)
        refine Lp54 p2 t_latestFinding _ (fun u14 H locs ls hw hl hf => ?_) N (0 : Int32) t_theRow_boxes _ _ _ hw (lv_sub hl [2, 4, 1, 0] rfl) hf
        refine lv_aload_n hx hb dX6_load_94 rfl (lv_at hl 0 rfl) ?_
        refine g_getN (ci := 4) (C := RX4) (T := TX4) (N := 4) S hinX4 hK hN hw 4 3 nw_X6_193 dX6_load_95 rfl rfl (by decide) rfl ?_
        obtain ⟨rfl, rfl, rfl⟩ := pr3 (Option.some.inj hf)
        exact rt_i S hr hlk hw dX6_load_98
      · have hf := (if_neg c5).symm.trans hf
        refine lv_aload_n hx hb dX6_load_45 rfl (lv_at hl 1 rfl) ?_
        refine lv_iconst (v := (2 : Int32)) hx hb dX6_load_46 (by decide) ?_
        obtain ⟨r15, u16, h17, hf⟩ := bd2_some hf
        refine cl_i (wr := [(q_t_theRow, .inr (3, [.ref q_t_theRow_boxes, .ref q_t_theRow_made])), (q_t_theRow_boxes, .inl (cI, 240, .inl t_theRow_boxes)), (q_t_sheets, .inl (cO, 4, .inr (.inr (.inr (.inr t_sheets))))), (q_S, .inr (4, [.ref q_S_items, .int S_lost, .int S_form, .int S_size])), (q_S_items, .inl (cI, 100, .inl S_items))]) (ws' := [(q_t, .inr (6, [.ref q_t_theRow, .ref q_t_pairs, .ref q_t_latestStrings, .ref q_t_leapStrings, .ref q_t_theRing, .ref q_t_trial, .ref q_t_sheets, .int t_moves, .int u16])), (q_t_theRow, .inr (3, [.ref q_t_theRow_boxes, .ref q_t_theRow_made])), (q_t_theRow_boxes, .inl (cI, 240, .inl t_theRow_boxes)), (q_t_sheets, .inl (cO, 4, .inr (.inr (.inr (.inr t_sheets))))), (q_S, .inr (4, [.ref q_S_items, .int S_lost, .int S_form, .int S_size])), (q_S_items, .inl (cI, 100, .inl S_items))]) hA hw [0] [1, 2, 3, 4, 5] [5, 0, 1, 2, 3, 4] rfl rfl rfl (by decide) rfl rfl (va_runV (As := [.int (2 : Int32)]) (rest := []) S (c_X6_find l D cI cZ cJ cO _ q_t q_t_theRow q_t_pairs q_t_latestStrings q_t_leapStrings q_t_theRing q_t_trial q_t_sheets N (2 : Int32) t_moves t_latestFinding r15 u16 h17) (cwV 1 hts gX6_load_X6_find rfl rfl rfl (by decide +kernel) ⟨Nat.le_of_ble_eq_true rfl, Nat.le_of_ble_eq_true rfl⟩) (pre_V hK hN hw [0] rfl rfl (C := RX6) (T := TX6) (N := 9) (ci := 6) (q0 := 0) rfl rfl) rfl rfl hl.1 rfl (lv_room (Nat.le_of_ble_eq_true rfl)) dX6_load_47 ⟨Nat.zero_le _, Nat.zero_le _⟩) (fun H locs hw => ?_)
        obtain ⟨rfl, rfl, rfl⟩ := pr3 (Option.some.inj hf)
        exact rt_i S hr hlk hw dX6_load_50
    · have hf := (if_neg c4).symm.trans hf
      refine lv_aload_n hx hb dX6_load_27 rfl (lv_at hl 1 rfl) ?_
      refine lv_iconst (v := (1 : Int32)) hx hb dX6_load_28 (by decide) ?_
      obtain ⟨r18, u19, h20, hf⟩ := bd2_some hf
      refine cl_i (wr := [(q_t_theRow, .inr (3, [.ref q_t_theRow_boxes, .ref q_t_theRow_made])), (q_t_theRow_boxes, .inl (cI, 240, .inl t_theRow_boxes)), (q_t_sheets, .inl (cO, 4, .inr (.inr (.inr (.inr t_sheets))))), (q_S, .inr (4, [.ref q_S_items, .int S_lost, .int S_form, .int S_size])), (q_S_items, .inl (cI, 100, .inl S_items))]) (ws' := [(q_t, .inr (6, [.ref q_t_theRow, .ref q_t_pairs, .ref q_t_latestStrings, .ref q_t_leapStrings, .ref q_t_theRing, .ref q_t_trial, .ref q_t_sheets, .int t_moves, .int u19])), (q_t_theRow, .inr (3, [.ref q_t_theRow_boxes, .ref q_t_theRow_made])), (q_t_theRow_boxes, .inl (cI, 240, .inl t_theRow_boxes)), (q_t_sheets, .inl (cO, 4, .inr (.inr (.inr (.inr t_sheets))))), (q_S, .inr (4, [.ref q_S_items, .int S_lost, .int S_form, .int S_size])), (q_S_items, .inl (cI, 100, .inl S_items))]) hA hw [0] [1, 2, 3, 4, 5] [5, 0, 1, 2, 3, 4] rfl rfl rfl (by decide) rfl rfl (va_runV (As := [.int (1 : Int32)]) (rest := []) S (c_X6_find l D cI cZ cJ cO _ q_t q_t_theRow q_t_pairs q_t_latestStrings q_t_leapStrings q_t_theRing q_t_trial q_t_sheets N (1 : Int32) t_moves t_latestFinding r18 u19 h20) (cwV 1 hts gX6_load_X6_find rfl rfl rfl (by decide +kernel) ⟨Nat.le_of_ble_eq_true rfl, Nat.le_of_ble_eq_true rfl⟩) (pre_V hK hN hw [0] rfl rfl (C := RX6) (T := TX6) (N := 9) (ci := 6) (q0 := 0) rfl rfl) rfl rfl hl.1 rfl (lv_room (Nat.le_of_ble_eq_true rfl)) dX6_load_29 ⟨Nat.zero_le _, Nat.zero_le _⟩) (fun H locs hw => ?_)
      obtain ⟨rfl, rfl, rfl⟩ := pr3 (Option.some.inj hf)
      exact rt_i S hr hlk hw dX6_load_32
  · have hf := (if_pos c3).symm.trans hf
    refine lv_bipush (v := (-2 : Int32)) hx hb dX6_load_17 (by decide) ?_
    obtain ⟨rfl, rfl, rfl⟩ := pr3 (Option.some.inj hf)
    exact rt_i S hr hlk hw dX6_load_19

def f_X6_write_n (_ : Nat) (p1 : Int32) (p2 : Int32) (t_sheets : (Nat → Option Nat)) : Option (Int32) :=
  (some (-2 : Int32))

set_option maxHeartbeats 4000000 in
set_option maxRecDepth 100000 in
theorem c_X6_write_n (l : Launch) (D : va_G) (cI cZ cJ cO : ClassId) (sz : Nat) (q_t q_t_theRow q_t_pairs q_t_latestStrings q_t_leapStrings q_t_theRing q_t_trial q_t_sheets : Nat) (N : Nat) (p1 : Int32) (p2 : Int32) (t_moves : Int32) (t_latestFinding : Int32) (t_sheets : (Nat → Option Nat)) (r : Int32) (hs0 : shOf p1 t_sheets = none) (hf : f_X6_write_n N p1 p2 t_sheets = some r) : Met l yX6_write wsX6_write ({ frames := 1, cells := 0, slots := 0, locals := 21 }) (PreC D (TY cI cZ cJ cO) [.ref q_t, .int p1, .int p2] [(q_t, .inr (6, [.ref q_t_theRow, .ref q_t_pairs, .ref q_t_latestStrings, .ref q_t_leapStrings, .ref q_t_theRing, .ref q_t_trial, .ref q_t_sheets, .int t_moves, .int t_latestFinding])), (q_t_sheets, .inl (cO, 4, .inr (.inr (.inr (.inr t_sheets)))))] sz) (QcI D [(q_t, .inr (6, [.ref q_t_theRow, .ref q_t_pairs, .ref q_t_latestStrings, .ref q_t_leapStrings, .ref q_t_theRing, .ref q_t_trial, .ref q_t_sheets, .int t_moves, .int t_latestFinding])), (q_t_sheets, .inl (cO, 4, .inr (.inr (.inr (.inr t_sheets)))))] (va_A [(q_t, .inr (6, [.ref q_t_theRow, .ref q_t_pairs, .ref q_t_latestStrings, .ref q_t_leapStrings, .ref q_t_theRing, .ref q_t_trial, .ref q_t_sheets, .int t_moves, .int t_latestFinding])), (q_t_sheets, .inl (cO, 4, .inr (.inr (.inr (.inr t_sheets)))))] sz) r) 0 0 (va_A [(q_t, .inr (6, [.ref q_t_theRow, .ref q_t_pairs, .ref q_t_latestStrings, .ref q_t_leapStrings, .ref q_t_theRing, .ref q_t_trial, .ref q_t_sheets, .int t_moves, .int t_latestFinding])), (q_t_sheets, .inl (cO, 4, .inr (.inr (.inr (.inr t_sheets)))))] sz) := by
  refine ctr (cc := cX6_write) (maxL := 6) (ret := (some .int)) (by decide) rfl (Nat.le_of_ble_eq_true rfl) ?_
  intro p e s m below meth c S hr hlk hnm hK hN hsz hA hw ls hl
  generalize va_A [(q_t, .inr (6, [.ref q_t_theRow, .ref q_t_pairs, .ref q_t_latestStrings, .ref q_t_leapStrings, .ref q_t_theRing, .ref q_t_trial, .ref q_t_sheets, .int t_moves, .int t_latestFinding])), (q_t_sheets, .inl (cO, 4, .inr (.inr (.inr (.inr t_sheets)))))] sz = A at hA hw ⊢
  have S : CallFix p m c cX6_write 6 s ([.ref q_t, .int p1, .int p2] : List Value).toArray wsX6_write RX6 := S
  have hx := S.1
  have hb := S.2.1
  have hts := S.2.2.2.2
  have hl : lv_has ls 6 [(0, .ref q_t), (1, .int p1), (2, .int p2)] := hl
  unfold f_X6_write_n at hf
  refine lv_aload_n hx hb dX6_write_0 rfl (lv_at hl 0 rfl) ?_
  refine lv_iload_n hx hb dX6_write_1 rfl (lv_at hl 1 rfl) ?_
  refine cl_q (wr := []) (ws' := [(q_t, .inr (6, [.ref q_t_theRow, .ref q_t_pairs, .ref q_t_latestStrings, .ref q_t_leapStrings, .ref q_t_theRing, .ref q_t_trial, .ref q_t_sheets, .int t_moves, .int t_latestFinding])), (q_t_sheets, .inl (cO, 4, .inr (.inr (.inr (.inr t_sheets)))))]) hA hw [0, 1] [] [0, 1] rfl rfl rfl (by decide) rfl rfl (va_runV (As := [.int p1]) (rest := []) S (c_X6_sheetOf l D cI cZ cJ cO _ q_t_theRow q_t_pairs q_t_latestStrings q_t_leapStrings q_t_theRing q_t_trial q_t_sheets t_moves t_latestFinding q_t t_sheets p1) (cwV 1 hts gX6_write_X6_sheetOf rfl rfl rfl (by decide +kernel) ⟨Nat.le_of_ble_eq_true rfl, Nat.le_of_ble_eq_true rfl⟩) (pre_V hK hN hw [0, 1] rfl rfl (C := RX6) (T := TX6) (N := 9) (ci := 6) (q0 := 0) rfl rfl) rfl rfl hl.1 rfl (lv_room (Nat.le_of_ble_eq_true rfl)) dX6_write_2 ⟨Nat.zero_le _, Nat.zero_le _⟩) (fun H locs hw => ?_)
  rw [hs0]
  refine W.eq (g2 := F0 m 5 ls [.null]) rfl ?_
  refine lv_astore_nN (lv' := [(3, .null), (0, .ref q_t), (1, .int p1), (2, .int p2)]) hx hb dX6_write_5 rfl hl (by decide) rfl (fun ls hl => ?_)
  refine lv_aload_nN hx hb dX6_write_6 rfl (lv_at hl 0 rfl) ?_
  refine lv_ifnullN (tgt := 17) hx hb dX6_write_7 (by decide) ?_
  refine lv_bipush (v := (-2 : Int32)) hx hb dX6_write_17 (by decide) ?_
  obtain rfl := Option.some.inj hf
  exact rt_i S hr hlk hw dX6_write_19

def L_X6_write_S_50 (N : Nat) (x2 : Int32) (x4 : Int32) (t_theRow_boxes : (Nat → Int32)) (S_form : Int32) (S_size : Int32) (K : (Nat → Int32) → Option (Int32 × Int32 × (Nat → Int32))) : Nat → Int32 → (Nat → Int32) → Option (Int32 × Int32 × (Nat → Int32))
  | 0, _, _ => none
  | n + 1, x5, w_S_items => (if x4 ≤ x5 then (K w_S_items) else (bd1 (f_X3_ballAt N (x2 + x5) t_theRow_boxes) (fun r6 => (bd1 (f_X4_place N x5 r6 S_form S_size w_S_items) (fun u8 => (L_X6_write_S_50 N x2 x4 t_theRow_boxes S_form S_size K n (x5 + (1 : Int32)) u8))))))

def f_X6_write_S (N : Nat) (p1 : Int32) (p2 : Int32) (t_latestFinding : Int32) (t_theRow_boxes : (Nat → Int32)) (t_sheets : (Nat → Option Nat)) (S_lost : Int32) (S_form : Int32) (S_size : Int32) (S_items : (Nat → Int32)) : Option (Int32 × Int32 × (Nat → Int32)) :=
  (bd1 (f_X6_isBox N p2) (fun r1 => (if r1 = (0 : Int32) then (some ((-2 : Int32), t_latestFinding, S_items)) else (if S_lost = (0 : Int32) then (L_X6_write_S_50 N p2 (mnI S_size ((240 : Int32) - p2)) t_theRow_boxes S_form S_size (fun u10 => (some ((mnI S_size ((240 : Int32) - p2)), t_latestFinding, u10))) N (0 : Int32) S_items) else (bd2 (f_X6_find N (1 : Int32) t_latestFinding) (fun r11 u12 => (some (r11, u12, S_items))))))))

set_option maxHeartbeats 4000000 in
set_option maxRecDepth 100000 in
theorem c_X6_write_S (l : Launch) (D : va_G) (cI cZ cJ cO : ClassId) (sz : Nat) (q_t q_t_theRow q_t_pairs q_t_latestStrings q_t_leapStrings q_t_theRing q_t_trial q_t_sheets q_t_theRow_boxes q_t_theRow_made q_S q_S_items : Nat) (N : Nat) (p1 : Int32) (p2 : Int32) (t_moves : Int32) (t_latestFinding : Int32) (t_theRow_boxes : (Nat → Int32)) (t_sheets : (Nat → Option Nat)) (S_lost : Int32) (S_form : Int32) (S_size : Int32) (S_items : (Nat → Int32)) (r : Int32) (o_t_latestFinding : Int32) (o_S_items : (Nat → Int32)) (hs0 : shOf p1 t_sheets = some q_S) (hf : f_X6_write_S N p1 p2 t_latestFinding t_theRow_boxes t_sheets S_lost S_form S_size S_items = some (r, o_t_latestFinding, o_S_items)) : Met l yX6_write wsX6_write ({ frames := 2, cells := 0, slots := 0, locals := 43 }) (PreC D (TY cI cZ cJ cO) [.ref q_t, .int p1, .int p2] [(q_t, .inr (6, [.ref q_t_theRow, .ref q_t_pairs, .ref q_t_latestStrings, .ref q_t_leapStrings, .ref q_t_theRing, .ref q_t_trial, .ref q_t_sheets, .int t_moves, .int t_latestFinding])), (q_t_theRow, .inr (3, [.ref q_t_theRow_boxes, .ref q_t_theRow_made])), (q_t_theRow_boxes, .inl (cI, 240, .inl t_theRow_boxes)), (q_t_sheets, .inl (cO, 4, .inr (.inr (.inr (.inr t_sheets))))), (q_S, .inr (4, [.ref q_S_items, .int S_lost, .int S_form, .int S_size])), (q_S_items, .inl (cI, 100, .inl S_items))] sz) (QcI D [(q_t, .inr (6, [.ref q_t_theRow, .ref q_t_pairs, .ref q_t_latestStrings, .ref q_t_leapStrings, .ref q_t_theRing, .ref q_t_trial, .ref q_t_sheets, .int t_moves, .int o_t_latestFinding])), (q_t_theRow, .inr (3, [.ref q_t_theRow_boxes, .ref q_t_theRow_made])), (q_t_theRow_boxes, .inl (cI, 240, .inl t_theRow_boxes)), (q_t_sheets, .inl (cO, 4, .inr (.inr (.inr (.inr t_sheets))))), (q_S, .inr (4, [.ref q_S_items, .int S_lost, .int S_form, .int S_size])), (q_S_items, .inl (cI, 100, .inl o_S_items))] (va_A [(q_t, .inr (6, [.ref q_t_theRow, .ref q_t_pairs, .ref q_t_latestStrings, .ref q_t_leapStrings, .ref q_t_theRing, .ref q_t_trial, .ref q_t_sheets, .int t_moves, .int t_latestFinding])), (q_t_theRow, .inr (3, [.ref q_t_theRow_boxes, .ref q_t_theRow_made])), (q_t_theRow_boxes, .inl (cI, 240, .inl t_theRow_boxes)), (q_t_sheets, .inl (cO, 4, .inr (.inr (.inr (.inr t_sheets))))), (q_S, .inr (4, [.ref q_S_items, .int S_lost, .int S_form, .int S_size])), (q_S_items, .inl (cI, 100, .inl S_items))] sz) r) 0 0 (va_A [(q_t, .inr (6, [.ref q_t_theRow, .ref q_t_pairs, .ref q_t_latestStrings, .ref q_t_leapStrings, .ref q_t_theRing, .ref q_t_trial, .ref q_t_sheets, .int t_moves, .int t_latestFinding])), (q_t_theRow, .inr (3, [.ref q_t_theRow_boxes, .ref q_t_theRow_made])), (q_t_theRow_boxes, .inl (cI, 240, .inl t_theRow_boxes)), (q_t_sheets, .inl (cO, 4, .inr (.inr (.inr (.inr t_sheets))))), (q_S, .inr (4, [.ref q_S_items, .int S_lost, .int S_form, .int S_size])), (q_S_items, .inl (cI, 100, .inl S_items))] sz) := by
  refine ctr (cc := cX6_write) (maxL := 6) (ret := (some .int)) (by decide) rfl (Nat.le_of_ble_eq_true rfl) ?_
  intro p e s m below meth c S hr hlk hnm hK hN hsz hA hw ls hl
  generalize va_A [(q_t, .inr (6, [.ref q_t_theRow, .ref q_t_pairs, .ref q_t_latestStrings, .ref q_t_leapStrings, .ref q_t_theRing, .ref q_t_trial, .ref q_t_sheets, .int t_moves, .int t_latestFinding])), (q_t_theRow, .inr (3, [.ref q_t_theRow_boxes, .ref q_t_theRow_made])), (q_t_theRow_boxes, .inl (cI, 240, .inl t_theRow_boxes)), (q_t_sheets, .inl (cO, 4, .inr (.inr (.inr (.inr t_sheets))))), (q_S, .inr (4, [.ref q_S_items, .int S_lost, .int S_form, .int S_size])), (q_S_items, .inl (cI, 100, .inl S_items))] sz = A at hA hw ⊢
  have S : CallFix p m c cX6_write 6 s ([.ref q_t, .int p1, .int p2] : List Value).toArray wsX6_write RX6 := S
  have hx := S.1
  have hb := S.2.1
  have hts := S.2.2.2.2
  have hl : lv_has ls 6 [(0, .ref q_t), (1, .int p1), (2, .int p2)] := hl
  have hinX4 : ∀ w ∈ u_ws RX4 TX4 4, w ∈ wsX6_write := by decide +kernel
  have hinX6 : ∀ w ∈ u_ws RX6 TX6 9, w ∈ wsX6_write := by decide +kernel
  have k10 : Cond.fieldLink RX6 10 "BallBoxes" "theRow" "LBallBoxes$Row;" ∈ wsX6_write := by decide +kernel
  have Lp50 : ∀ (x2 : Int32) (x4 : Int32) (w_t_latestFinding : Int32) (K : (Nat → Int32) → Option (Int32 × Int32 × (Nat → Int32))), (∀ (z_S_items : (Nat → Int32)) (H : Heap) (locs : List Loc) (ls : Array Slot), Wd D A s.heap [(q_t, .inr (6, [.ref q_t_theRow, .ref q_t_pairs, .ref q_t_latestStrings, .ref q_t_leapStrings, .ref q_t_theRing, .ref q_t_trial, .ref q_t_sheets, .int t_moves, .int w_t_latestFinding])), (q_t_theRow, .inr (3, [.ref q_t_theRow_boxes, .ref q_t_theRow_made])), (q_t_theRow_boxes, .inl (cI, 240, .inl t_theRow_boxes)), (q_t_sheets, .inl (cO, 4, .inr (.inr (.inr (.inr t_sheets))))), (q_S, .inr (4, [.ref q_S_items, .int S_lost, .int S_form, .int S_size])), (q_S_items, .inl (cI, 100, .inl z_S_items))] H locs → lv_has ls 6 [(4, .int x4)] → K z_S_items = some (r, o_t_latestFinding, o_S_items) → W p l e ({ frames := 2, cells := 0, slots := 0, locals := 43 } : Room) s m ([.ref q_t, .int p1, .int p2] : List Value).toArray below meth c H locs 0 0 (MQ below (QcI D [(q_t, .inr (6, [.ref q_t_theRow, .ref q_t_pairs, .ref q_t_latestStrings, .ref q_t_leapStrings, .ref q_t_theRing, .ref q_t_trial, .ref q_t_sheets, .int t_moves, .int o_t_latestFinding])), (q_t_theRow, .inr (3, [.ref q_t_theRow_boxes, .ref q_t_theRow_made])), (q_t_theRow_boxes, .inl (cI, 240, .inl t_theRow_boxes)), (q_t_sheets, .inl (cO, 4, .inr (.inr (.inr (.inr t_sheets))))), (q_S, .inr (4, [.ref q_S_items, .int S_lost, .int S_form, .int S_size])), (q_S_items, .inl (cI, 100, .inl o_S_items))] A r) ([.ref q_t, .int p1, .int p2] : List Value).toArray s 0 0 A) (F0 m 80 ls [])) → ∀ (n : Nat) (x5 : Int32) (w_S_items : (Nat → Int32)) (H : Heap) (locs : List Loc) (ls : Array Slot), Wd D A s.heap [(q_t, .inr (6, [.ref q_t_theRow, .ref q_t_pairs, .ref q_t_latestStrings, .ref q_t_leapStrings, .ref q_t_theRing, .ref q_t_trial, .ref q_t_sheets, .int t_moves, .int w_t_latestFinding])), (q_t_theRow, .inr (3, [.ref q_t_theRow_boxes, .ref q_t_theRow_made])), (q_t_theRow_boxes, .inl (cI, 240, .inl t_theRow_boxes)), (q_t_sheets, .inl (cO, 4, .inr (.inr (.inr (.inr t_sheets))))), (q_S, .inr (4, [.ref q_S_items, .int S_lost, .int S_form, .int S_size])), (q_S_items, .inl (cI, 100, .inl w_S_items))] H locs → lv_has ls 6 [(0, .ref q_t), (2, .int x2), (3, .ref q_S), (4, .int x4), (5, .int x5)] → L_X6_write_S_50 N x2 x4 t_theRow_boxes S_form S_size K n x5 w_S_items = some (r, o_t_latestFinding, o_S_items) → W p l e ({ frames := 2, cells := 0, slots := 0, locals := 43 } : Room) s m ([.ref q_t, .int p1, .int p2] : List Value).toArray below meth c H locs 0 0 (MQ below (QcI D [(q_t, .inr (6, [.ref q_t_theRow, .ref q_t_pairs, .ref q_t_latestStrings, .ref q_t_leapStrings, .ref q_t_theRing, .ref q_t_trial, .ref q_t_sheets, .int t_moves, .int o_t_latestFinding])), (q_t_theRow, .inr (3, [.ref q_t_theRow_boxes, .ref q_t_theRow_made])), (q_t_theRow_boxes, .inl (cI, 240, .inl t_theRow_boxes)), (q_t_sheets, .inl (cO, 4, .inr (.inr (.inr (.inr t_sheets))))), (q_S, .inr (4, [.ref q_S_items, .int S_lost, .int S_form, .int S_size])), (q_S_items, .inl (cI, 100, .inl o_S_items))] A r) ([.ref q_t, .int p1, .int p2] : List Value).toArray s 0 0 A) (F0 m 50 ls []) := by
    intro x2 x4 w_t_latestFinding K hKx n
    induction n with
    | zero =>
      intro x5 w_S_items H locs ls hw hl hf
      rw [L_X6_write_S_50] at hf
      cases hf
    | succ n ih =>
      intro x5 w_S_items H locs ls hw hl hf
      rw [L_X6_write_S_50] at hf
      refine lv_iload hx hb dX6_write_50 (lv_at hl 4 rfl) ?_
      refine lv_iload hx hb dX6_write_52 (lv_at hl 3 rfl) ?_
      refine lv_icmp_ge (tgt := 80) hx hb dX6_write_54 (by decide) (fun c5 => ?_) (fun c5 => ?_)
      · have hf := (if_pos c5).symm.trans hf
        exact hKx w_S_items _ _ _ hw (lv_sub hl [3] rfl) hf
      · have hf := (if_neg c5).symm.trans hf
        refine lv_aload_n hx hb dX6_write_57 rfl (lv_at hl 2 rfl) ?_
        refine lv_iload hx hb dX6_write_58 (lv_at hl 4 rfl) ?_
        refine lv_aload_n hx hb dX6_write_60 rfl (lv_at hl 0 rfl) ?_
        refine g_get (ci := 6) (C := RX6) (T := TX6) (N := 9) S hinX6 hK hw 0 0 k10 dX6_write_61 rfl rfl (by decide) rfl ?_
        refine lv_iload_n hx hb dX6_write_64 rfl (lv_at hl 1 rfl) ?_
        refine lv_iload hx hb dX6_write_65 (lv_at hl 4 rfl) ?_
        refine lv_iadd hx hb dX6_write_67 ?_
        obtain ⟨r6, h7, hf⟩ := bd1_some hf
        refine cl_i (wr := [(q_t, .inr (6, [.ref q_t_theRow, .ref q_t_pairs, .ref q_t_latestStrings, .ref q_t_leapStrings, .ref q_t_theRing, .ref q_t_trial, .ref q_t_sheets, .int t_moves, .int w_t_latestFinding])), (q_t_sheets, .inl (cO, 4, .inr (.inr (.inr (.inr t_sheets))))), (q_S, .inr (4, [.ref q_S_items, .int S_lost, .int S_form, .int S_size])), (q_S_items, .inl (cI, 100, .inl w_S_items))]) (ws' := [(q_t, .inr (6, [.ref q_t_theRow, .ref q_t_pairs, .ref q_t_latestStrings, .ref q_t_leapStrings, .ref q_t_theRing, .ref q_t_trial, .ref q_t_sheets, .int t_moves, .int w_t_latestFinding])), (q_t_theRow, .inr (3, [.ref q_t_theRow_boxes, .ref q_t_theRow_made])), (q_t_theRow_boxes, .inl (cI, 240, .inl t_theRow_boxes)), (q_t_sheets, .inl (cO, 4, .inr (.inr (.inr (.inr t_sheets))))), (q_S, .inr (4, [.ref q_S_items, .int S_lost, .int S_form, .int S_size])), (q_S_items, .inl (cI, 100, .inl w_S_items))]) hA hw [1, 2] [0, 3, 4, 5] [0, 4, 5, 1, 2, 3] rfl rfl rfl (by decide) rfl rfl (va_runV (As := [.int (x2 + x5)]) (rest := [.int x5, .ref q_S]) S (c_X3_ballAt l D cI cZ cJ cO _ q_t_theRow q_t_theRow_boxes q_t_theRow_made N (x2 + x5) t_theRow_boxes r6 h7) (cwV 1 hts gX6_write_X3_ballAt rfl rfl rfl (by decide +kernel) ⟨Nat.le_of_ble_eq_true rfl, Nat.le_of_ble_eq_true rfl⟩) (pre_V hK hN hw [1, 2] rfl rfl (C := RX3) (T := TX3) (N := 2) (ci := 3) (q0 := 0) rfl rfl) rfl rfl hl.1 rfl (lv_room (Nat.le_of_ble_eq_true rfl)) dX6_write_68 ⟨Nat.zero_le _, Nat.zero_le _⟩) (fun H locs hw => ?_)
        obtain ⟨u8, h9, hf⟩ := bd1_some hf
        refine cl_v (wr := [(q_t, .inr (6, [.ref q_t_theRow, .ref q_t_pairs, .ref q_t_latestStrings, .ref q_t_leapStrings, .ref q_t_theRing, .ref q_t_trial, .ref q_t_sheets, .int t_moves, .int w_t_latestFinding])), (q_t_theRow, .inr (3, [.ref q_t_theRow_boxes, .ref q_t_theRow_made])), (q_t_theRow_boxes, .inl (cI, 240, .inl t_theRow_boxes)), (q_t_sheets, .inl (cO, 4, .inr (.inr (.inr (.inr t_sheets)))))]) (ws' := [(q_t, .inr (6, [.ref q_t_theRow, .ref q_t_pairs, .ref q_t_latestStrings, .ref q_t_leapStrings, .ref q_t_theRing, .ref q_t_trial, .ref q_t_sheets, .int t_moves, .int w_t_latestFinding])), (q_t_theRow, .inr (3, [.ref q_t_theRow_boxes, .ref q_t_theRow_made])), (q_t_theRow_boxes, .inl (cI, 240, .inl t_theRow_boxes)), (q_t_sheets, .inl (cO, 4, .inr (.inr (.inr (.inr t_sheets))))), (q_S, .inr (4, [.ref q_S_items, .int S_lost, .int S_form, .int S_size])), (q_S_items, .inl (cI, 100, .inl u8))]) hA hw [4, 5] [0, 1, 2, 3] [0, 1, 2, 3, 4, 5] rfl rfl rfl (by decide) rfl rfl (va_runV (As := [.int x5, .int r6]) (rest := []) S (c_X4_place l D cI cZ cJ cO _ q_S q_S_items N x5 r6 S_lost S_form S_size w_S_items u8 h9) (cwV 2 hts gX6_write_X4_place rfl rfl rfl (by decide +kernel) ⟨Nat.le_of_ble_eq_true rfl, Nat.le_of_ble_eq_true rfl⟩) (pre_V hK hN hw [4, 5] rfl rfl (C := RX4) (T := TX4) (N := 4) (ci := 4) (q0 := 0) rfl rfl) rfl rfl hl.1 rfl (lv_room (Nat.le_of_ble_eq_true rfl)) dX6_write_71 ⟨Nat.zero_le _, Nat.zero_le _⟩) (fun H locs hw => ?_)
        refine lv_iinc (v := (x5 + (1 : Int32))) (lv' := [(5, .int (x5 + (1 : Int32))), (0, .ref q_t), (2, .int x2), (3, .ref q_S), (4, .int x4)]) hx hb dX6_write_74 hl (k := 4) rfl rfl (by decide) rfl (fun ls hl => ?_)
        refine lv_goto (tgt := 50) hx hb dX6_write_77 (by decide) ?_
        exact ih (x5 + (1 : Int32)) u8 _ _ _ hw (lv_sub hl [1, 2, 3, 4, 0] rfl) hf
  unfold f_X6_write_S at hf
  refine lv_aload_n hx hb dX6_write_0 rfl (lv_at hl 0 rfl) ?_
  refine lv_iload_n hx hb dX6_write_1 rfl (lv_at hl 1 rfl) ?_
  refine cl_q (wr := [(q_t_theRow, .inr (3, [.ref q_t_theRow_boxes, .ref q_t_theRow_made])), (q_t_theRow_boxes, .inl (cI, 240, .inl t_theRow_boxes)), (q_S, .inr (4, [.ref q_S_items, .int S_lost, .int S_form, .int S_size])), (q_S_items, .inl (cI, 100, .inl S_items))]) (ws' := [(q_t, .inr (6, [.ref q_t_theRow, .ref q_t_pairs, .ref q_t_latestStrings, .ref q_t_leapStrings, .ref q_t_theRing, .ref q_t_trial, .ref q_t_sheets, .int t_moves, .int t_latestFinding])), (q_t_theRow, .inr (3, [.ref q_t_theRow_boxes, .ref q_t_theRow_made])), (q_t_theRow_boxes, .inl (cI, 240, .inl t_theRow_boxes)), (q_t_sheets, .inl (cO, 4, .inr (.inr (.inr (.inr t_sheets))))), (q_S, .inr (4, [.ref q_S_items, .int S_lost, .int S_form, .int S_size])), (q_S_items, .inl (cI, 100, .inl S_items))]) hA hw [0, 3] [1, 2, 4, 5] [4, 0, 1, 5, 2, 3] rfl rfl rfl (by decide) rfl rfl (va_runV (As := [.int p1]) (rest := []) S (c_X6_sheetOf l D cI cZ cJ cO _ q_t_theRow q_t_pairs q_t_latestStrings q_t_leapStrings q_t_theRing q_t_trial q_t_sheets t_moves t_latestFinding q_t t_sheets p1) (cwV 1 hts gX6_write_X6_sheetOf rfl rfl rfl (by decide +kernel) ⟨Nat.le_of_ble_eq_true rfl, Nat.le_of_ble_eq_true rfl⟩) (pre_V hK hN hw [0, 3] rfl rfl (C := RX6) (T := TX6) (N := 9) (ci := 6) (q0 := 0) rfl rfl) rfl rfl hl.1 rfl (lv_room (Nat.le_of_ble_eq_true rfl)) dX6_write_2 ⟨Nat.zero_le _, Nat.zero_le _⟩) (fun H locs hw => ?_)
  rw [hs0]
  refine W.eq (g2 := F0 m 5 ls [.ref q_S]) rfl ?_
  refine lv_astore_n (lv' := [(3, .ref q_S), (0, .ref q_t), (1, .int p1), (2, .int p2)]) hx hb dX6_write_5 rfl hl (by decide) rfl (fun ls hl => ?_)
  refine lv_aload_n hx hb dX6_write_6 rfl (lv_at hl 0 rfl) ?_
  refine lv_ifnull hx hb dX6_write_7 ?_
  refine lv_iload_n hx hb dX6_write_10 rfl (lv_at hl 3 rfl) ?_
  obtain ⟨r1, h2, hf⟩ := bd1_some hf
  refine cl_i (wr := [(q_t, .inr (6, [.ref q_t_theRow, .ref q_t_pairs, .ref q_t_latestStrings, .ref q_t_leapStrings, .ref q_t_theRing, .ref q_t_trial, .ref q_t_sheets, .int t_moves, .int t_latestFinding])), (q_t_theRow, .inr (3, [.ref q_t_theRow_boxes, .ref q_t_theRow_made])), (q_t_theRow_boxes, .inl (cI, 240, .inl t_theRow_boxes)), (q_t_sheets, .inl (cO, 4, .inr (.inr (.inr (.inr t_sheets))))), (q_S, .inr (4, [.ref q_S_items, .int S_lost, .int S_form, .int S_size])), (q_S_items, .inl (cI, 100, .inl S_items))]) (ws' := [(q_t, .inr (6, [.ref q_t_theRow, .ref q_t_pairs, .ref q_t_latestStrings, .ref q_t_leapStrings, .ref q_t_theRing, .ref q_t_trial, .ref q_t_sheets, .int t_moves, .int t_latestFinding])), (q_t_theRow, .inr (3, [.ref q_t_theRow_boxes, .ref q_t_theRow_made])), (q_t_theRow_boxes, .inl (cI, 240, .inl t_theRow_boxes)), (q_t_sheets, .inl (cO, 4, .inr (.inr (.inr (.inr t_sheets))))), (q_S, .inr (4, [.ref q_S_items, .int S_lost, .int S_form, .int S_size])), (q_S_items, .inl (cI, 100, .inl S_items))]) hA hw [] [0, 1, 2, 3, 4, 5] [0, 1, 2, 3, 4, 5] rfl rfl rfl (by decide) rfl rfl (va_runS (As := [.int p2]) (rest := []) S (c_X6_isBox l D cI cZ cJ cO _ N p2 r1 h2) (va_cwS 1 hts gX6_write_X6_isBox rfl rfl rfl (by decide +kernel) ⟨Nat.le_of_ble_eq_true rfl, Nat.le_of_ble_eq_true rfl⟩) (pre_S hK hN hw [] rfl rfl) rfl rfl hl.1 rfl (lv_room (Nat.le_of_ble_eq_true rfl)) dX6_write_11 ⟨Nat.zero_le _, Nat.zero_le _⟩) (fun H locs hw => ?_)
  refine lv_if_ne (tgt := 20) hx hb dX6_write_14 (by decide) (fun c3 => ?_) (fun c3 => ?_)
  · have hf := (if_neg c3).symm.trans hf
    refine lv_aload_n hx hb dX6_write_20 rfl (lv_at hl 0 rfl) ?_
    refine g_getN (ci := 4) (C := RX4) (T := TX4) (N := 4) S hinX4 hK hN hw 4 1 nw_X6_189 dX6_write_21 rfl rfl (by decide) rfl ?_
    refine lv_if_eq (tgt := 33) hx hb dX6_write_24 (by decide) (fun c4 => ?_) (fun c4 => ?_)
    · have hf := (if_pos c4).symm.trans hf
      refine lv_aload_n hx hb dX6_write_33 rfl (lv_at hl 0 rfl) ?_
      refine g_getN (ci := 4) (C := RX4) (T := TX4) (N := 4) S hinX4 hK hN hw 4 3 nw_X6_193 dX6_write_34 rfl rfl (by decide) rfl ?_
      refine lv_sipush (v := (240 : Int32)) hx hb dX6_write_37 (by decide) ?_
      refine lv_iload_n hx hb dX6_write_40 rfl (lv_at hl 3 rfl) ?_
      refine lv_isub hx hb dX6_write_41 ?_
      refine va_mmin hx hb (S.2.2.1.trans hl.1.symm) S.2.2.2.1 (hts (.methodLink RX6 218 Lib.Math.min.name) (by decide +kernel)) (hts (.static Lib.Math.min.name) (by decide +kernel)) (hts (.initialized "java/lang/Math") (by decide +kernel)) (hts (.code Lib.Math.min.name Lib.Math.min.code 2 (some .int)) (by decide +kernel)) (Nat.le_of_ble_eq_true rfl) (Nat.le_of_ble_eq_true rfl) (Nat.zero_le _) (Nat.zero_le _) dX6_write_42 ?_
      refine W.eq (g2 := F0 m 45 ls [.int (mnI S_size ((240 : Int32) - p2))]) rfl ?_
      refine lv_istore (lv' := [(4, .int (mnI S_size ((240 : Int32) - p2))), (3, .ref q_S), (0, .ref q_t), (1, .int p1), (2, .int p2)]) hx hb dX6_write_45 hl (by decide) rfl (fun ls hl => ?_)
      refine lv_iconst (v := (0 : Int32)) hx hb dX6_write_47 (by decide) ?_
      refine lv_istore (lv' := [(5, .int (0 : Int32)), (4, .int (mnI S_size ((240 : Int32) - p2))), (3, .ref q_S), (0, .ref q_t), (1, .int p1), (2, .int p2)]) hx hb dX6_write_48 hl (by decide) rfl (fun ls hl => ?_)
      refine Lp50 p2 (mnI S_size ((240 : Int32) - p2)) t_latestFinding _ (fun u10 H locs ls hw hl hf => ?_) N (0 : Int32) S_items _ _ _ hw (lv_sub hl [3, 5, 2, 1, 0] rfl) hf
      refine lv_iload hx hb dX6_write_80 (lv_at hl 0 rfl) ?_
      obtain ⟨rfl, rfl, rfl⟩ := pr3 (Option.some.inj hf)
      exact rt_i S hr hlk hw dX6_write_82
    · have hf := (if_neg c4).symm.trans hf
      refine lv_aload_n hx hb dX6_write_27 rfl (lv_at hl 1 rfl) ?_
      refine lv_iconst (v := (1 : Int32)) hx hb dX6_write_28 (by decide) ?_
      obtain ⟨r11, u12, h13, hf⟩ := bd2_some hf
      refine cl_i (wr := [(q_t_theRow, .inr (3, [.ref q_t_theRow_boxes, .ref q_t_theRow_made])), (q_t_theRow_boxes, .inl (cI, 240, .inl t_theRow_boxes)), (q_t_sheets, .inl (cO, 4, .inr (.inr (.inr (.inr t_sheets))))), (q_S, .inr (4, [.ref q_S_items, .int S_lost, .int S_form, .int S_size])), (q_S_items, .inl (cI, 100, .inl S_items))]) (ws' := [(q_t, .inr (6, [.ref q_t_theRow, .ref q_t_pairs, .ref q_t_latestStrings, .ref q_t_leapStrings, .ref q_t_theRing, .ref q_t_trial, .ref q_t_sheets, .int t_moves, .int u12])), (q_t_theRow, .inr (3, [.ref q_t_theRow_boxes, .ref q_t_theRow_made])), (q_t_theRow_boxes, .inl (cI, 240, .inl t_theRow_boxes)), (q_t_sheets, .inl (cO, 4, .inr (.inr (.inr (.inr t_sheets))))), (q_S, .inr (4, [.ref q_S_items, .int S_lost, .int S_form, .int S_size])), (q_S_items, .inl (cI, 100, .inl S_items))]) hA hw [0] [1, 2, 3, 4, 5] [5, 0, 1, 2, 3, 4] rfl rfl rfl (by decide) rfl rfl (va_runV (As := [.int (1 : Int32)]) (rest := []) S (c_X6_find l D cI cZ cJ cO _ q_t q_t_theRow q_t_pairs q_t_latestStrings q_t_leapStrings q_t_theRing q_t_trial q_t_sheets N (1 : Int32) t_moves t_latestFinding r11 u12 h13) (cwV 1 hts gX6_write_X6_find rfl rfl rfl (by decide +kernel) ⟨Nat.le_of_ble_eq_true rfl, Nat.le_of_ble_eq_true rfl⟩) (pre_V hK hN hw [0] rfl rfl (C := RX6) (T := TX6) (N := 9) (ci := 6) (q0 := 0) rfl rfl) rfl rfl hl.1 rfl (lv_room (Nat.le_of_ble_eq_true rfl)) dX6_write_29 ⟨Nat.zero_le _, Nat.zero_le _⟩) (fun H locs hw => ?_)
      obtain ⟨rfl, rfl, rfl⟩ := pr3 (Option.some.inj hf)
      exact rt_i S hr hlk hw dX6_write_32
  · have hf := (if_pos c3).symm.trans hf
    refine lv_bipush (v := (-2 : Int32)) hx hb dX6_write_17 (by decide) ?_
    obtain ⟨rfl, rfl, rfl⟩ := pr3 (Option.some.inj hf)
    exact rt_i S hr hlk hw dX6_write_19

def f_X6_count (N : Nat) (p1 : Int32) (t_moves : Int32) (t_latestFinding : Int32) (t_theRow_boxes : (Nat → Int32)) (t_latestStrings_size : Int32) (t_theRing_size : Int32) (t_theRing_bits : Int64) : Option (Int32) :=
  (if p1 = (0 : Int32) then (bd1 (f_X3_balls N t_theRow_boxes) (fun r2 => (some r2))) else (if p1 = (1 : Int32) then (some t_theRing_size) else (if p1 = (2 : Int32) then (bd1 (f_J13_bitCount_95d88 N t_theRing_bits) (fun r6 => (some r6))) else (if p1 = (3 : Int32) then (some t_latestStrings_size) else (if p1 = (4 : Int32) then (some t_moves) else (if p1 = (5 : Int32) then (some t_latestFinding) else (some (-2 : Int32))))))))

set_option maxHeartbeats 4000000 in
set_option maxRecDepth 100000 in
theorem c_X6_count (l : Launch) (D : va_G) (cI cZ cJ cO : ClassId) (sz : Nat) (q_t q_t_theRow q_t_pairs q_t_latestStrings q_t_leapStrings q_t_theRing q_t_trial q_t_sheets q_t_theRow_boxes q_t_theRow_made q_t_latestStrings_lengths q_t_latestStrings_riggings q_t_latestStrings_lesserSums : Nat) (N : Nat) (p1 : Int32) (t_moves : Int32) (t_latestFinding : Int32) (t_theRow_boxes : (Nat → Int32)) (t_latestStrings_size : Int32) (t_latestStrings_boxesRead : Int32) (t_theRing_size : Int32) (t_theRing_bits : Int64) (t_theRing_made : Int64) (t_theRing_carrierHas : Int32) (r : Int32) (hf : f_X6_count N p1 t_moves t_latestFinding t_theRow_boxes t_latestStrings_size t_theRing_size t_theRing_bits = some r) : Met l yX6_count wsX6_count ({ frames := 1, cells := 0, slots := 0, locals := 22 }) (PreC D (TY cI cZ cJ cO) [.ref q_t, .int p1] [(q_t, .inr (6, [.ref q_t_theRow, .ref q_t_pairs, .ref q_t_latestStrings, .ref q_t_leapStrings, .ref q_t_theRing, .ref q_t_trial, .ref q_t_sheets, .int t_moves, .int t_latestFinding])), (q_t_theRow, .inr (3, [.ref q_t_theRow_boxes, .ref q_t_theRow_made])), (q_t_theRow_boxes, .inl (cI, 240, .inl t_theRow_boxes)), (q_t_latestStrings, .inr (5, [.ref q_t_latestStrings_lengths, .ref q_t_latestStrings_riggings, .ref q_t_latestStrings_lesserSums, .int t_latestStrings_size, .int t_latestStrings_boxesRead])), (q_t_theRing, .inr (1, [.int t_theRing_size, .long t_theRing_bits, .long t_theRing_made, .int t_theRing_carrierHas]))] sz) (QcI D [(q_t, .inr (6, [.ref q_t_theRow, .ref q_t_pairs, .ref q_t_latestStrings, .ref q_t_leapStrings, .ref q_t_theRing, .ref q_t_trial, .ref q_t_sheets, .int t_moves, .int t_latestFinding])), (q_t_theRow, .inr (3, [.ref q_t_theRow_boxes, .ref q_t_theRow_made])), (q_t_theRow_boxes, .inl (cI, 240, .inl t_theRow_boxes)), (q_t_latestStrings, .inr (5, [.ref q_t_latestStrings_lengths, .ref q_t_latestStrings_riggings, .ref q_t_latestStrings_lesserSums, .int t_latestStrings_size, .int t_latestStrings_boxesRead])), (q_t_theRing, .inr (1, [.int t_theRing_size, .long t_theRing_bits, .long t_theRing_made, .int t_theRing_carrierHas]))] (va_A [(q_t, .inr (6, [.ref q_t_theRow, .ref q_t_pairs, .ref q_t_latestStrings, .ref q_t_leapStrings, .ref q_t_theRing, .ref q_t_trial, .ref q_t_sheets, .int t_moves, .int t_latestFinding])), (q_t_theRow, .inr (3, [.ref q_t_theRow_boxes, .ref q_t_theRow_made])), (q_t_theRow_boxes, .inl (cI, 240, .inl t_theRow_boxes)), (q_t_latestStrings, .inr (5, [.ref q_t_latestStrings_lengths, .ref q_t_latestStrings_riggings, .ref q_t_latestStrings_lesserSums, .int t_latestStrings_size, .int t_latestStrings_boxesRead])), (q_t_theRing, .inr (1, [.int t_theRing_size, .long t_theRing_bits, .long t_theRing_made, .int t_theRing_carrierHas]))] sz) r) 0 0 (va_A [(q_t, .inr (6, [.ref q_t_theRow, .ref q_t_pairs, .ref q_t_latestStrings, .ref q_t_leapStrings, .ref q_t_theRing, .ref q_t_trial, .ref q_t_sheets, .int t_moves, .int t_latestFinding])), (q_t_theRow, .inr (3, [.ref q_t_theRow_boxes, .ref q_t_theRow_made])), (q_t_theRow_boxes, .inl (cI, 240, .inl t_theRow_boxes)), (q_t_latestStrings, .inr (5, [.ref q_t_latestStrings_lengths, .ref q_t_latestStrings_riggings, .ref q_t_latestStrings_lesserSums, .int t_latestStrings_size, .int t_latestStrings_boxesRead])), (q_t_theRing, .inr (1, [.int t_theRing_size, .long t_theRing_bits, .long t_theRing_made, .int t_theRing_carrierHas]))] sz) := by
  refine ctr (cc := cX6_count) (maxL := 2) (ret := (some .int)) (by decide) rfl (Nat.le_of_ble_eq_true rfl) ?_
  intro p e s m below meth c S hr hlk hnm hK hN hsz hA hw ls hl
  generalize va_A [(q_t, .inr (6, [.ref q_t_theRow, .ref q_t_pairs, .ref q_t_latestStrings, .ref q_t_leapStrings, .ref q_t_theRing, .ref q_t_trial, .ref q_t_sheets, .int t_moves, .int t_latestFinding])), (q_t_theRow, .inr (3, [.ref q_t_theRow_boxes, .ref q_t_theRow_made])), (q_t_theRow_boxes, .inl (cI, 240, .inl t_theRow_boxes)), (q_t_latestStrings, .inr (5, [.ref q_t_latestStrings_lengths, .ref q_t_latestStrings_riggings, .ref q_t_latestStrings_lesserSums, .int t_latestStrings_size, .int t_latestStrings_boxesRead])), (q_t_theRing, .inr (1, [.int t_theRing_size, .long t_theRing_bits, .long t_theRing_made, .int t_theRing_carrierHas]))] sz = A at hA hw ⊢
  have S : CallFix p m c cX6_count 2 s ([.ref q_t, .int p1] : List Value).toArray wsX6_count RX6 := S
  have hx := S.1
  have hb := S.2.1
  have hts := S.2.2.2.2
  have hl : lv_has ls 2 [(0, .ref q_t), (1, .int p1)] := hl
  have hinX1 : ∀ w ∈ u_ws RX1 TX1 4, w ∈ wsX6_count := by decide +kernel
  have hinX5 : ∀ w ∈ u_ws RX5 TX5 5, w ∈ wsX6_count := by decide +kernel
  have hinX6 : ∀ w ∈ u_ws RX6 TX6 9, w ∈ wsX6_count := by decide +kernel
  have k10 : Cond.fieldLink RX6 10 "BallBoxes" "theRow" "LBallBoxes$Row;" ∈ wsX6_count := by decide +kernel
  have k26 : Cond.fieldLink RX6 26 "BallBoxes" "latestStrings" "LBallBoxes$Strings;" ∈ wsX6_count := by decide +kernel
  have k36 : Cond.fieldLink RX6 36 "BallBoxes" "theRing" "LBallBoxes$Ring;" ∈ wsX6_count := by decide +kernel
  have k134 : Cond.fieldLink RX6 134 "BallBoxes" "moves" "I" ∈ wsX6_count := by decide +kernel
  have k227 : Cond.fieldLink RX6 227 "BallBoxes" "latestFinding" "I" ∈ wsX6_count := by decide +kernel
  unfold f_X6_count at hf
  refine lv_iload_n hx hb dX6_count_0 rfl (lv_at hl 1 rfl) ?_
  by_cases c1 : p1 = (0 : Int32)
  · have hf := (if_pos c1).symm.trans hf
    refine lv_tableIn (off := 39) (tgt := 40) hx hb dX6_count_1 (by rw [c1]; decide) (by rw [c1]; decide) (by rw [c1]; decide) (by decide) ?_
    refine lv_aload_n hx hb dX6_count_40 rfl (lv_at hl 0 rfl) ?_
    refine g_get (ci := 6) (C := RX6) (T := TX6) (N := 9) S hinX6 hK hw 0 0 k10 dX6_count_41 rfl rfl (by decide) rfl ?_
    obtain ⟨r2, h3, hf⟩ := bd1_some hf
    refine cl_i (wr := [(q_t, .inr (6, [.ref q_t_theRow, .ref q_t_pairs, .ref q_t_latestStrings, .ref q_t_leapStrings, .ref q_t_theRing, .ref q_t_trial, .ref q_t_sheets, .int t_moves, .int t_latestFinding])), (q_t_latestStrings, .inr (5, [.ref q_t_latestStrings_lengths, .ref q_t_latestStrings_riggings, .ref q_t_latestStrings_lesserSums, .int t_latestStrings_size, .int t_latestStrings_boxesRead])), (q_t_theRing, .inr (1, [.int t_theRing_size, .long t_theRing_bits, .long t_theRing_made, .int t_theRing_carrierHas]))]) (ws' := [(q_t, .inr (6, [.ref q_t_theRow, .ref q_t_pairs, .ref q_t_latestStrings, .ref q_t_leapStrings, .ref q_t_theRing, .ref q_t_trial, .ref q_t_sheets, .int t_moves, .int t_latestFinding])), (q_t_theRow, .inr (3, [.ref q_t_theRow_boxes, .ref q_t_theRow_made])), (q_t_theRow_boxes, .inl (cI, 240, .inl t_theRow_boxes)), (q_t_latestStrings, .inr (5, [.ref q_t_latestStrings_lengths, .ref q_t_latestStrings_riggings, .ref q_t_latestStrings_lesserSums, .int t_latestStrings_size, .int t_latestStrings_boxesRead])), (q_t_theRing, .inr (1, [.int t_theRing_size, .long t_theRing_bits, .long t_theRing_made, .int t_theRing_carrierHas]))]) hA hw [1, 2] [0, 3, 4] [0, 3, 4, 1, 2] rfl rfl rfl (by decide) rfl rfl (va_runV (As := []) (rest := []) S (c_X3_balls l D cI cZ cJ cO _ q_t_theRow q_t_theRow_boxes q_t_theRow_made N t_theRow_boxes r2 h3) (cwV 0 hts gX6_count_X3_balls rfl rfl rfl (by decide +kernel) ⟨Nat.le_of_ble_eq_true rfl, Nat.le_of_ble_eq_true rfl⟩) (pre_V hK hN hw [1, 2] rfl rfl (C := RX3) (T := TX3) (N := 2) (ci := 3) (q0 := 0) rfl rfl) rfl rfl hl.1 rfl (lv_room (Nat.le_of_ble_eq_true rfl)) dX6_count_44 ⟨Nat.zero_le _, Nat.zero_le _⟩) (fun H locs hw => ?_)
    obtain rfl := Option.some.inj hf
    exact rt_i S hr hlk hw dX6_count_47
  have hf := (if_neg c1).symm.trans hf
  by_cases c4 : p1 = (1 : Int32)
  · have hf := (if_pos c4).symm.trans hf
    refine lv_tableIn (off := 47) (tgt := 48) hx hb dX6_count_1 (by rw [c4]; decide) (by rw [c4]; decide) (by rw [c4]; decide) (by decide) ?_
    refine lv_aload_n hx hb dX6_count_48 rfl (lv_at hl 0 rfl) ?_
    refine g_get (ci := 6) (C := RX6) (T := TX6) (N := 9) S hinX6 hK hw 0 4 k36 dX6_count_49 rfl rfl (by decide) rfl ?_
    refine g_getN (ci := 1) (C := RX1) (T := TX1) (N := 4) S hinX1 hK hN hw 4 0 nw_X6_223 dX6_count_52 rfl rfl (by decide) rfl ?_
    obtain rfl := Option.some.inj hf
    exact rt_i S hr hlk hw dX6_count_55
  have hf := (if_neg c4).symm.trans hf
  by_cases c5 : p1 = (2 : Int32)
  · have hf := (if_pos c5).symm.trans hf
    refine lv_tableIn (off := 55) (tgt := 56) hx hb dX6_count_1 (by rw [c5]; decide) (by rw [c5]; decide) (by rw [c5]; decide) (by decide) ?_
    refine lv_aload_n hx hb dX6_count_56 rfl (lv_at hl 0 rfl) ?_
    refine g_get (ci := 6) (C := RX6) (T := TX6) (N := 9) S hinX6 hK hw 0 4 k36 dX6_count_57 rfl rfl (by decide) rfl ?_
    refine g_getN (ci := 1) (C := RX1) (T := TX1) (N := 4) S hinX1 hK hN hw 4 1 nw_X6_224 dX6_count_60 rfl rfl (by decide) rfl ?_
    obtain ⟨r6, h7, hf⟩ := bd1_some hf
    refine cl_i (wr := [(q_t, .inr (6, [.ref q_t_theRow, .ref q_t_pairs, .ref q_t_latestStrings, .ref q_t_leapStrings, .ref q_t_theRing, .ref q_t_trial, .ref q_t_sheets, .int t_moves, .int t_latestFinding])), (q_t_theRow, .inr (3, [.ref q_t_theRow_boxes, .ref q_t_theRow_made])), (q_t_theRow_boxes, .inl (cI, 240, .inl t_theRow_boxes)), (q_t_latestStrings, .inr (5, [.ref q_t_latestStrings_lengths, .ref q_t_latestStrings_riggings, .ref q_t_latestStrings_lesserSums, .int t_latestStrings_size, .int t_latestStrings_boxesRead])), (q_t_theRing, .inr (1, [.int t_theRing_size, .long t_theRing_bits, .long t_theRing_made, .int t_theRing_carrierHas]))]) (ws' := [(q_t, .inr (6, [.ref q_t_theRow, .ref q_t_pairs, .ref q_t_latestStrings, .ref q_t_leapStrings, .ref q_t_theRing, .ref q_t_trial, .ref q_t_sheets, .int t_moves, .int t_latestFinding])), (q_t_theRow, .inr (3, [.ref q_t_theRow_boxes, .ref q_t_theRow_made])), (q_t_theRow_boxes, .inl (cI, 240, .inl t_theRow_boxes)), (q_t_latestStrings, .inr (5, [.ref q_t_latestStrings_lengths, .ref q_t_latestStrings_riggings, .ref q_t_latestStrings_lesserSums, .int t_latestStrings_size, .int t_latestStrings_boxesRead])), (q_t_theRing, .inr (1, [.int t_theRing_size, .long t_theRing_bits, .long t_theRing_made, .int t_theRing_carrierHas]))]) hA hw [] [0, 1, 2, 3, 4] [0, 1, 2, 3, 4] rfl rfl rfl (by decide) rfl rfl (va_runS (As := [.long t_theRing_bits]) (rest := []) S (c_J13_bitCount_95d88 l D cI cZ cJ cO _ N t_theRing_bits r6 h7) (va_cwS 1 hts gX6_count_J13_bitCount_95d88 rfl rfl rfl (by decide +kernel) ⟨Nat.le_of_ble_eq_true rfl, Nat.le_of_ble_eq_true rfl⟩) (pre_S hK hN hw [] rfl rfl) rfl rfl hl.1 rfl (lv_room (Nat.le_of_ble_eq_true rfl)) dX6_count_63 ⟨Nat.zero_le _, Nat.zero_le _⟩) (fun H locs hw => ?_)
    obtain rfl := Option.some.inj hf
    exact rt_i S hr hlk hw dX6_count_66
  have hf := (if_neg c5).symm.trans hf
  by_cases c8 : p1 = (3 : Int32)
  · have hf := (if_pos c8).symm.trans hf
    refine lv_tableIn (off := 66) (tgt := 67) hx hb dX6_count_1 (by rw [c8]; decide) (by rw [c8]; decide) (by rw [c8]; decide) (by decide) ?_
    refine lv_aload_n hx hb dX6_count_67 rfl (lv_at hl 0 rfl) ?_
    refine g_get (ci := 6) (C := RX6) (T := TX6) (N := 9) S hinX6 hK hw 0 2 k26 dX6_count_68 rfl rfl (by decide) rfl ?_
    refine g_getN (ci := 5) (C := RX5) (T := TX5) (N := 5) S hinX5 hK hN hw 3 3 nw_X6_104 dX6_count_71 rfl rfl (by decide) rfl ?_
    obtain rfl := Option.some.inj hf
    exact rt_i S hr hlk hw dX6_count_74
  have hf := (if_neg c8).symm.trans hf
  by_cases c9 : p1 = (4 : Int32)
  · have hf := (if_pos c9).symm.trans hf
    refine lv_tableIn (off := 74) (tgt := 75) hx hb dX6_count_1 (by rw [c9]; decide) (by rw [c9]; decide) (by rw [c9]; decide) (by decide) ?_
    refine lv_aload_n hx hb dX6_count_75 rfl (lv_at hl 0 rfl) ?_
    refine g_get (ci := 6) (C := RX6) (T := TX6) (N := 9) S hinX6 hK hw 0 7 k134 dX6_count_76 rfl rfl (by decide) rfl ?_
    obtain rfl := Option.some.inj hf
    exact rt_i S hr hlk hw dX6_count_79
  have hf := (if_neg c9).symm.trans hf
  by_cases c10 : p1 = (5 : Int32)
  · have hf := (if_pos c10).symm.trans hf
    refine lv_tableIn (off := 79) (tgt := 80) hx hb dX6_count_1 (by rw [c10]; decide) (by rw [c10]; decide) (by rw [c10]; decide) (by decide) ?_
    refine lv_aload_n hx hb dX6_count_80 rfl (lv_at hl 0 rfl) ?_
    refine g_get (ci := 6) (C := RX6) (T := TX6) (N := 9) S hinX6 hK hw 0 8 k227 dX6_count_81 rfl rfl (by decide) rfl ?_
    obtain rfl := Option.some.inj hf
    exact rt_i S hr hlk hw dX6_count_84
  have hf := (if_neg c10).symm.trans hf
  refine lv_tableOut (tgt := 85) hx hb dX6_count_1 (by have e0 := sw_ne c1 (z := 0) (by decide); have e1 := sw_ne c4 (z := 1) (by decide); have e2 := sw_ne c5 (z := 2) (by decide); have e3 := sw_ne c8 (z := 3) (by decide); have e4 := sw_ne c9 (z := 4) (by decide); have e5 := sw_ne c10 (z := 5) (by decide); omega) (by decide) ?_
  refine lv_bipush (v := (-2 : Int32)) hx hb dX6_count_85 (by decide) ?_
  obtain rfl := Option.some.inj hf
  exact rt_i S hr hlk hw dX6_count_87
