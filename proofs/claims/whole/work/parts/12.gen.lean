def L_X5_haveRoomBehind_2 (N : Nat) (x1 : Int32) (t_size : Int32) (t_lengths : (Nat → Int32)) (t_riggings : (Nat → Int32)) (t_lesserSums : (Nat → Int32)) (K : Unit → Option (Int32)) : Nat → Int32 → Option (Int32)
  | 0, _ => none
  | n + 1, x2 => (if t_size ≤ x2 then (K ()) else (if (240 : Int32) ≤ x2 then (K ()) else (ck (inb x2 240) (ck (inb x2 240) (bd1 (f_X5_roomLeft N (t_lengths x2.toNatClampNeg) x1 t_lesserSums) (fun r5 => (if (t_riggings x2.toNatClampNeg) ≤ r5 then (L_X5_haveRoomBehind_2 N x1 t_size t_lengths t_riggings t_lesserSums K n (x2 + (1 : Int32))) else (some (0 : Int32)))))))))

def f_X5_haveRoomBehind (N : Nat) (p1 : Int32) (t_size : Int32) (t_lengths : (Nat → Int32)) (t_riggings : (Nat → Int32)) (t_lesserSums : (Nat → Int32)) : Option (Int32) :=
  (L_X5_haveRoomBehind_2 N p1 t_size t_lengths t_riggings t_lesserSums (fun _ => (some (1 : Int32))) N (0 : Int32))

set_option maxHeartbeats 4000000 in
set_option maxRecDepth 100000 in
theorem c_X5_haveRoomBehind (l : Launch) (D : va_G) (cI cZ cJ cO : ClassId) (sz : Nat) (q_t q_t_lengths q_t_riggings q_t_lesserSums : Nat) (N : Nat) (p1 : Int32) (t_size : Int32) (t_boxesRead : Int32) (t_lengths : (Nat → Int32)) (t_riggings : (Nat → Int32)) (t_lesserSums : (Nat → Int32)) (r : Int32) (hf : f_X5_haveRoomBehind N p1 t_size t_lengths t_riggings t_lesserSums = some r) : Met l yX5_haveRoomBehind wsX5_haveRoomBehind ({ frames := 1, cells := 0, slots := 0, locals := 22 }) (PreC D (TY cI cZ cJ cO) [.ref q_t, .int p1] [(q_t, .inr (5, [.ref q_t_lengths, .ref q_t_riggings, .ref q_t_lesserSums, .int t_size, .int t_boxesRead])), (q_t_lengths, .inl (cI, 240, .inl t_lengths)), (q_t_riggings, .inl (cI, 240, .inl t_riggings)), (q_t_lesserSums, .inl (cI, 241, .inl t_lesserSums))] sz) (QcI D [(q_t, .inr (5, [.ref q_t_lengths, .ref q_t_riggings, .ref q_t_lesserSums, .int t_size, .int t_boxesRead])), (q_t_lengths, .inl (cI, 240, .inl t_lengths)), (q_t_riggings, .inl (cI, 240, .inl t_riggings)), (q_t_lesserSums, .inl (cI, 241, .inl t_lesserSums))] (va_A [(q_t, .inr (5, [.ref q_t_lengths, .ref q_t_riggings, .ref q_t_lesserSums, .int t_size, .int t_boxesRead])), (q_t_lengths, .inl (cI, 240, .inl t_lengths)), (q_t_riggings, .inl (cI, 240, .inl t_riggings)), (q_t_lesserSums, .inl (cI, 241, .inl t_lesserSums))] sz) r) 0 0 (va_A [(q_t, .inr (5, [.ref q_t_lengths, .ref q_t_riggings, .ref q_t_lesserSums, .int t_size, .int t_boxesRead])), (q_t_lengths, .inl (cI, 240, .inl t_lengths)), (q_t_riggings, .inl (cI, 240, .inl t_riggings)), (q_t_lesserSums, .inl (cI, 241, .inl t_lesserSums))] sz) := by
  refine ctr (cc := cX5_haveRoomBehind) (maxL := 3) (ret := (some .boolean)) (by decide) rfl (Nat.le_of_ble_eq_true rfl) ?_
  intro p e s m below meth c S hr hlk hnm hK hN hsz hA hw ls hl
  generalize va_A [(q_t, .inr (5, [.ref q_t_lengths, .ref q_t_riggings, .ref q_t_lesserSums, .int t_size, .int t_boxesRead])), (q_t_lengths, .inl (cI, 240, .inl t_lengths)), (q_t_riggings, .inl (cI, 240, .inl t_riggings)), (q_t_lesserSums, .inl (cI, 241, .inl t_lesserSums))] sz = A at hA hw ⊢
  have S : CallFix p m c cX5_haveRoomBehind 3 s ([.ref q_t, .int p1] : List Value).toArray wsX5_haveRoomBehind RX5 := S
  have hx := S.1
  have hb := S.2.1
  have hts := S.2.2.2.2
  have hl : lv_has ls 3 [(0, .ref q_t), (1, .int p1)] := hl
  have hinX5 : ∀ w ∈ u_ws RX5 TX5 5, w ∈ wsX5_haveRoomBehind := by decide +kernel
  have k9 : Cond.fieldLink RX5 9 "BallBoxes$Strings" "lengths" "[I" ∈ wsX5_haveRoomBehind := by decide +kernel
  have k15 : Cond.fieldLink RX5 15 "BallBoxes$Strings" "riggings" "[I" ∈ wsX5_haveRoomBehind := by decide +kernel
  have k21 : Cond.fieldLink RX5 21 "BallBoxes$Strings" "size" "I" ∈ wsX5_haveRoomBehind := by decide +kernel
  have Lp2 : ∀ (x1 : Int32) (K : Unit → Option (Int32)), (∀  (H : Heap) (locs : List Loc) (ls : Array Slot), Wd D A s.heap [(q_t, .inr (5, [.ref q_t_lengths, .ref q_t_riggings, .ref q_t_lesserSums, .int t_size, .int t_boxesRead])), (q_t_lengths, .inl (cI, 240, .inl t_lengths)), (q_t_riggings, .inl (cI, 240, .inl t_riggings)), (q_t_lesserSums, .inl (cI, 241, .inl t_lesserSums))] H locs → lv_has ls 3 [] → K () = some r → W p l e ({ frames := 1, cells := 0, slots := 0, locals := 22 } : Room) s m ([.ref q_t, .int p1] : List Value).toArray below meth c H locs 0 0 (MQ below (QcI D [(q_t, .inr (5, [.ref q_t_lengths, .ref q_t_riggings, .ref q_t_lesserSums, .int t_size, .int t_boxesRead])), (q_t_lengths, .inl (cI, 240, .inl t_lengths)), (q_t_riggings, .inl (cI, 240, .inl t_riggings)), (q_t_lesserSums, .inl (cI, 241, .inl t_lesserSums))] A r) ([.ref q_t, .int p1] : List Value).toArray s 0 0 A) (F0 m 45 ls [])) → ∀ (n : Nat) (x2 : Int32) (H : Heap) (locs : List Loc) (ls : Array Slot), Wd D A s.heap [(q_t, .inr (5, [.ref q_t_lengths, .ref q_t_riggings, .ref q_t_lesserSums, .int t_size, .int t_boxesRead])), (q_t_lengths, .inl (cI, 240, .inl t_lengths)), (q_t_riggings, .inl (cI, 240, .inl t_riggings)), (q_t_lesserSums, .inl (cI, 241, .inl t_lesserSums))] H locs → lv_has ls 3 [(0, .ref q_t), (1, .int x1), (2, .int x2)] → L_X5_haveRoomBehind_2 N x1 t_size t_lengths t_riggings t_lesserSums K n x2 = some r → W p l e ({ frames := 1, cells := 0, slots := 0, locals := 22 } : Room) s m ([.ref q_t, .int p1] : List Value).toArray below meth c H locs 0 0 (MQ below (QcI D [(q_t, .inr (5, [.ref q_t_lengths, .ref q_t_riggings, .ref q_t_lesserSums, .int t_size, .int t_boxesRead])), (q_t_lengths, .inl (cI, 240, .inl t_lengths)), (q_t_riggings, .inl (cI, 240, .inl t_riggings)), (q_t_lesserSums, .inl (cI, 241, .inl t_lesserSums))] A r) ([.ref q_t, .int p1] : List Value).toArray s 0 0 A) (F0 m 2 ls []) := by
    intro x1 K hKx n
    induction n with
    | zero =>
      intro x2 H locs ls hw hl hf
      rw [L_X5_haveRoomBehind_2] at hf
      cases hf
    | succ n ih =>
      intro x2 H locs ls hw hl hf
      rw [L_X5_haveRoomBehind_2] at hf
      refine lv_iload_n hx hb dX5_haveRoomBehind_2 rfl (lv_at hl 2 rfl) ?_
      refine lv_aload_n hx hb dX5_haveRoomBehind_3 rfl (lv_at hl 0 rfl) ?_
      refine g_get (ci := 5) (C := RX5) (T := TX5) (N := 5) S hinX5 hK hw 0 3 k21 dX5_haveRoomBehind_4 rfl rfl (by decide) rfl ?_
      refine lv_icmp_ge (tgt := 45) hx hb dX5_haveRoomBehind_7 (by decide) (fun c1 => ?_) (fun c1 => ?_)
      · have hf := (if_pos c1).symm.trans hf
        exact hKx  _ _ _ hw (lv_sub hl [] rfl) hf
      · have hf := (if_neg c1).symm.trans hf
        refine lv_iload_n hx hb dX5_haveRoomBehind_10 rfl (lv_at hl 2 rfl) ?_
        refine lv_sipush (v := (240 : Int32)) hx hb dX5_haveRoomBehind_11 (by decide) ?_
        refine lv_icmp_ge (tgt := 45) hx hb dX5_haveRoomBehind_14 (by decide) (fun c2 => ?_) (fun c2 => ?_)
        · have hf := (if_pos c2).symm.trans hf
          exact hKx  _ _ _ hw (lv_sub hl [] rfl) hf
        · have hf := (if_neg c2).symm.trans hf
          refine lv_aload_n hx hb dX5_haveRoomBehind_17 rfl (lv_at hl 0 rfl) ?_
          refine g_get (ci := 5) (C := RX5) (T := TX5) (N := 5) S hinX5 hK hw 0 1 k15 dX5_haveRoomBehind_18 rfl rfl (by decide) rfl ?_
          refine lv_iload_n hx hb dX5_haveRoomBehind_21 rfl (lv_at hl 2 rfl) ?_
          obtain ⟨b3, hf⟩ := ck_some hf
          refine g_iald S hK hw 2 0 b3 dX5_haveRoomBehind_22 rfl rfl ?_
          refine lv_aload_n hx hb dX5_haveRoomBehind_23 rfl (lv_at hl 0 rfl) ?_
          refine lv_aload_n hx hb dX5_haveRoomBehind_24 rfl (lv_at hl 0 rfl) ?_
          refine g_get (ci := 5) (C := RX5) (T := TX5) (N := 5) S hinX5 hK hw 0 0 k9 dX5_haveRoomBehind_25 rfl rfl (by decide) rfl ?_
          refine lv_iload_n hx hb dX5_haveRoomBehind_28 rfl (lv_at hl 2 rfl) ?_
          obtain ⟨b4, hf⟩ := ck_some hf
          refine g_iald S hK hw 1 0 b4 dX5_haveRoomBehind_29 rfl rfl ?_
          refine lv_iload_n hx hb dX5_haveRoomBehind_30 rfl (lv_at hl 1 rfl) ?_
          obtain ⟨r5, h6, hf⟩ := bd1_some hf
          refine cl_i (wr := [(q_t_lengths, .inl (cI, 240, .inl t_lengths)), (q_t_riggings, .inl (cI, 240, .inl t_riggings))]) (ws' := [(q_t, .inr (5, [.ref q_t_lengths, .ref q_t_riggings, .ref q_t_lesserSums, .int t_size, .int t_boxesRead])), (q_t_lengths, .inl (cI, 240, .inl t_lengths)), (q_t_riggings, .inl (cI, 240, .inl t_riggings)), (q_t_lesserSums, .inl (cI, 241, .inl t_lesserSums))]) hA hw [0, 3] [1, 2] [2, 0, 1, 3] rfl rfl rfl (by decide) rfl rfl (va_runV (As := [.int (t_lengths x2.toNatClampNeg), .int x1]) (rest := [.int (t_riggings x2.toNatClampNeg)]) S (c_X5_roomLeft l D cI cZ cJ cO _ q_t q_t_lengths q_t_riggings q_t_lesserSums N (t_lengths x2.toNatClampNeg) x1 t_size t_boxesRead t_lesserSums r5 h6) (cwV 2 hts gX5_haveRoomBehind_X5_roomLeft rfl rfl rfl (by decide +kernel) ⟨Nat.le_of_ble_eq_true rfl, Nat.le_of_ble_eq_true rfl⟩) (pre_V hK hN hw [0, 3] rfl rfl (C := RX5) (T := TX5) (N := 5) (ci := 5) (q0 := 0) rfl rfl) rfl rfl hl.1 rfl (lv_room (Nat.le_of_ble_eq_true rfl)) dX5_haveRoomBehind_31 ⟨Nat.zero_le _, Nat.zero_le _⟩) (fun H locs hw => ?_)
          refine lv_icmp_le (tgt := 39) hx hb dX5_haveRoomBehind_34 (by decide) (fun c7 => ?_) (fun c7 => ?_)
          · have hf := (if_pos c7).symm.trans hf
            refine lv_iinc (v := (x2 + (1 : Int32))) (lv' := [(2, .int (x2 + (1 : Int32))), (0, .ref q_t), (1, .int x1)]) hx hb dX5_haveRoomBehind_39 hl (k := 2) rfl rfl (by decide) rfl (fun ls hl => ?_)
            refine lv_goto (tgt := 2) hx hb dX5_haveRoomBehind_42 (by decide) ?_
            exact ih (x2 + (1 : Int32)) _ _ _ hw (lv_sub hl [1, 2, 0] rfl) hf
          · have hf := (if_neg c7).symm.trans hf
            refine lv_iconst (v := (0 : Int32)) hx hb dX5_haveRoomBehind_37 (by decide) ?_
            obtain rfl := Option.some.inj hf
            exact rt_z S hr hlk hw dX5_haveRoomBehind_38 rfl
  unfold f_X5_haveRoomBehind at hf
  refine lv_iconst (v := (0 : Int32)) hx hb dX5_haveRoomBehind_0 (by decide) ?_
  refine lv_istore_n (lv' := [(2, .int (0 : Int32)), (0, .ref q_t), (1, .int p1)]) hx hb dX5_haveRoomBehind_1 rfl hl (by decide) rfl (fun ls hl => ?_)
  refine Lp2 p1 _ (fun  H locs ls hw hl hf => ?_) N (0 : Int32) _ _ _ hw (lv_sub hl [1, 2, 0] rfl) hf
  refine lv_iconst (v := (1 : Int32)) hx hb dX5_haveRoomBehind_45 (by decide) ?_
  obtain rfl := Option.some.inj hf
  exact rt_z S hr hlk hw dX5_haveRoomBehind_46 rfl

def f_X5_isBehind (N : Nat) (p1 : Int32) (p2 : Int32) (t_size : Int32) (t_lengths : (Nat → Int32)) (t_riggings : (Nat → Int32)) : Option (Int32) :=
  (bd1 (f_X5_lengthOf N p1 t_size t_lengths) (fun r1 => (bd1 (f_X5_lengthOf N p2 t_size t_lengths) (fun r3 => (if r1 = r3 then (bd1 (f_X5_riggingOf N p1 t_size t_riggings) (fun r6 => (bd1 (f_X5_riggingOf N p2 t_size t_riggings) (fun r8 => (if r8 ≤ r6 then (some (0 : Int32)) else (some (1 : Int32))))))) else (bd1 (f_X5_lengthOf N p1 t_size t_lengths) (fun r11 => (bd1 (f_X5_lengthOf N p2 t_size t_lengths) (fun r13 => (if r13 ≤ r11 then (some (0 : Int32)) else (some (1 : Int32))))))))))))

set_option maxHeartbeats 4000000 in
set_option maxRecDepth 100000 in
theorem c_X5_isBehind (l : Launch) (D : va_G) (cI cZ cJ cO : ClassId) (sz : Nat) (q_t q_t_lengths q_t_riggings q_t_lesserSums : Nat) (N : Nat) (p1 : Int32) (p2 : Int32) (t_size : Int32) (t_boxesRead : Int32) (t_lengths : (Nat → Int32)) (t_riggings : (Nat → Int32)) (r : Int32) (hf : f_X5_isBehind N p1 p2 t_size t_lengths t_riggings = some r) : Met l yX5_isBehind wsX5_isBehind ({ frames := 2, cells := 0, slots := 0, locals := 42 }) (PreC D (TY cI cZ cJ cO) [.ref q_t, .int p1, .int p2] [(q_t, .inr (5, [.ref q_t_lengths, .ref q_t_riggings, .ref q_t_lesserSums, .int t_size, .int t_boxesRead])), (q_t_lengths, .inl (cI, 240, .inl t_lengths)), (q_t_riggings, .inl (cI, 240, .inl t_riggings))] sz) (QcI D [(q_t, .inr (5, [.ref q_t_lengths, .ref q_t_riggings, .ref q_t_lesserSums, .int t_size, .int t_boxesRead])), (q_t_lengths, .inl (cI, 240, .inl t_lengths)), (q_t_riggings, .inl (cI, 240, .inl t_riggings))] (va_A [(q_t, .inr (5, [.ref q_t_lengths, .ref q_t_riggings, .ref q_t_lesserSums, .int t_size, .int t_boxesRead])), (q_t_lengths, .inl (cI, 240, .inl t_lengths)), (q_t_riggings, .inl (cI, 240, .inl t_riggings))] sz) r) 0 0 (va_A [(q_t, .inr (5, [.ref q_t_lengths, .ref q_t_riggings, .ref q_t_lesserSums, .int t_size, .int t_boxesRead])), (q_t_lengths, .inl (cI, 240, .inl t_lengths)), (q_t_riggings, .inl (cI, 240, .inl t_riggings))] sz) := by
  refine ctr (cc := cX5_isBehind) (maxL := 3) (ret := (some .boolean)) (by decide) rfl (Nat.le_of_ble_eq_true rfl) ?_
  intro p e s m below meth c S hr hlk hnm hK hN hsz hA hw ls hl
  generalize va_A [(q_t, .inr (5, [.ref q_t_lengths, .ref q_t_riggings, .ref q_t_lesserSums, .int t_size, .int t_boxesRead])), (q_t_lengths, .inl (cI, 240, .inl t_lengths)), (q_t_riggings, .inl (cI, 240, .inl t_riggings))] sz = A at hA hw ⊢
  have S : CallFix p m c cX5_isBehind 3 s ([.ref q_t, .int p1, .int p2] : List Value).toArray wsX5_isBehind RX5 := S
  have hx := S.1
  have hb := S.2.1
  have hts := S.2.2.2.2
  have hl : lv_has ls 3 [(0, .ref q_t), (1, .int p1), (2, .int p2)] := hl
  unfold f_X5_isBehind at hf
  refine lv_aload_n hx hb dX5_isBehind_0 rfl (lv_at hl 0 rfl) ?_
  refine lv_iload_n hx hb dX5_isBehind_1 rfl (lv_at hl 1 rfl) ?_
  obtain ⟨r1, h2, hf⟩ := bd1_some hf
  refine cl_i (wr := [(q_t_riggings, .inl (cI, 240, .inl t_riggings))]) (ws' := [(q_t, .inr (5, [.ref q_t_lengths, .ref q_t_riggings, .ref q_t_lesserSums, .int t_size, .int t_boxesRead])), (q_t_lengths, .inl (cI, 240, .inl t_lengths)), (q_t_riggings, .inl (cI, 240, .inl t_riggings))]) hA hw [0, 1] [2] [1, 2, 0] rfl rfl rfl (by decide) rfl rfl (va_runV (As := [.int p1]) (rest := []) S (c_X5_lengthOf l D cI cZ cJ cO _ q_t q_t_lengths q_t_riggings q_t_lesserSums N p1 t_size t_boxesRead t_lengths r1 h2) (cwV 1 hts gX5_isBehind_X5_lengthOf rfl rfl rfl (by decide +kernel) ⟨Nat.le_of_ble_eq_true rfl, Nat.le_of_ble_eq_true rfl⟩) (pre_V hK hN hw [0, 1] rfl rfl (C := RX5) (T := TX5) (N := 5) (ci := 5) (q0 := 0) rfl rfl) rfl rfl hl.1 rfl (lv_room (Nat.le_of_ble_eq_true rfl)) dX5_isBehind_2 ⟨Nat.zero_le _, Nat.zero_le _⟩) (fun H locs hw => ?_)
  refine lv_aload_n hx hb dX5_isBehind_5 rfl (lv_at hl 0 rfl) ?_
  refine lv_iload_n hx hb dX5_isBehind_6 rfl (lv_at hl 2 rfl) ?_
  obtain ⟨r3, h4, hf⟩ := bd1_some hf
  refine cl_i (wr := [(q_t_riggings, .inl (cI, 240, .inl t_riggings))]) (ws' := [(q_t, .inr (5, [.ref q_t_lengths, .ref q_t_riggings, .ref q_t_lesserSums, .int t_size, .int t_boxesRead])), (q_t_lengths, .inl (cI, 240, .inl t_lengths)), (q_t_riggings, .inl (cI, 240, .inl t_riggings))]) hA hw [0, 1] [2] [1, 2, 0] rfl rfl rfl (by decide) rfl rfl (va_runV (As := [.int p2]) (rest := [.int r1]) S (c_X5_lengthOf l D cI cZ cJ cO _ q_t q_t_lengths q_t_riggings q_t_lesserSums N p2 t_size t_boxesRead t_lengths r3 h4) (cwV 1 hts gX5_isBehind_X5_lengthOf rfl rfl rfl (by decide +kernel) ⟨Nat.le_of_ble_eq_true rfl, Nat.le_of_ble_eq_true rfl⟩) (pre_V hK hN hw [0, 1] rfl rfl (C := RX5) (T := TX5) (N := 5) (ci := 5) (q0 := 0) rfl rfl) rfl rfl hl.1 rfl (lv_room (Nat.le_of_ble_eq_true rfl)) dX5_isBehind_7 ⟨Nat.zero_le _, Nat.zero_le _⟩) (fun H locs hw => ?_)
  refine lv_icmp_eq (tgt := 32) hx hb dX5_isBehind_10 (by decide) (fun c5 => ?_) (fun c5 => ?_)
  · have hf := (if_pos c5).symm.trans hf
    refine lv_aload_n hx hb dX5_isBehind_32 rfl (lv_at hl 0 rfl) ?_
    refine lv_iload_n hx hb dX5_isBehind_33 rfl (lv_at hl 1 rfl) ?_
    obtain ⟨r6, h7, hf⟩ := bd1_some hf
    refine cl_i (wr := [(q_t_lengths, .inl (cI, 240, .inl t_lengths))]) (ws' := [(q_t, .inr (5, [.ref q_t_lengths, .ref q_t_riggings, .ref q_t_lesserSums, .int t_size, .int t_boxesRead])), (q_t_lengths, .inl (cI, 240, .inl t_lengths)), (q_t_riggings, .inl (cI, 240, .inl t_riggings))]) hA hw [0, 2] [1] [1, 0, 2] rfl rfl rfl (by decide) rfl rfl (va_runV (As := [.int p1]) (rest := []) S (c_X5_riggingOf l D cI cZ cJ cO _ q_t q_t_lengths q_t_riggings q_t_lesserSums N p1 t_size t_boxesRead t_riggings r6 h7) (cwV 1 hts gX5_isBehind_X5_riggingOf rfl rfl rfl (by decide +kernel) ⟨Nat.le_of_ble_eq_true rfl, Nat.le_of_ble_eq_true rfl⟩) (pre_V hK hN hw [0, 2] rfl rfl (C := RX5) (T := TX5) (N := 5) (ci := 5) (q0 := 0) rfl rfl) rfl rfl hl.1 rfl (lv_room (Nat.le_of_ble_eq_true rfl)) dX5_isBehind_34 ⟨Nat.zero_le _, Nat.zero_le _⟩) (fun H locs hw => ?_)
    refine lv_aload_n hx hb dX5_isBehind_37 rfl (lv_at hl 0 rfl) ?_
    refine lv_iload_n hx hb dX5_isBehind_38 rfl (lv_at hl 2 rfl) ?_
    obtain ⟨r8, h9, hf⟩ := bd1_some hf
    refine cl_i (wr := [(q_t_lengths, .inl (cI, 240, .inl t_lengths))]) (ws' := [(q_t, .inr (5, [.ref q_t_lengths, .ref q_t_riggings, .ref q_t_lesserSums, .int t_size, .int t_boxesRead])), (q_t_lengths, .inl (cI, 240, .inl t_lengths)), (q_t_riggings, .inl (cI, 240, .inl t_riggings))]) hA hw [0, 2] [1] [1, 0, 2] rfl rfl rfl (by decide) rfl rfl (va_runV (As := [.int p2]) (rest := [.int r6]) S (c_X5_riggingOf l D cI cZ cJ cO _ q_t q_t_lengths q_t_riggings q_t_lesserSums N p2 t_size t_boxesRead t_riggings r8 h9) (cwV 1 hts gX5_isBehind_X5_riggingOf rfl rfl rfl (by decide +kernel) ⟨Nat.le_of_ble_eq_true rfl, Nat.le_of_ble_eq_true rfl⟩) (pre_V hK hN hw [0, 2] rfl rfl (C := RX5) (T := TX5) (N := 5) (ci := 5) (q0 := 0) rfl rfl) rfl rfl hl.1 rfl (lv_room (Nat.le_of_ble_eq_true rfl)) dX5_isBehind_39 ⟨Nat.zero_le _, Nat.zero_le _⟩) (fun H locs hw => ?_)
    refine lv_icmp_ge (tgt := 49) hx hb dX5_isBehind_42 (by decide) (fun c10 => ?_) (fun c10 => ?_)
    · have hf := (if_pos c10).symm.trans hf
      refine lv_iconst (v := (0 : Int32)) hx hb dX5_isBehind_49 (by decide) ?_
      obtain rfl := Option.some.inj hf
      exact rt_z S hr hlk hw dX5_isBehind_50 rfl
    · have hf := (if_neg c10).symm.trans hf
      refine lv_iconst (v := (1 : Int32)) hx hb dX5_isBehind_45 (by decide) ?_
      refine lv_goto (tgt := 50) hx hb dX5_isBehind_46 (by decide) ?_
      obtain rfl := Option.some.inj hf
      exact rt_z S hr hlk hw dX5_isBehind_50 rfl
  · have hf := (if_neg c5).symm.trans hf
    refine lv_aload_n hx hb dX5_isBehind_13 rfl (lv_at hl 0 rfl) ?_
    refine lv_iload_n hx hb dX5_isBehind_14 rfl (lv_at hl 1 rfl) ?_
    obtain ⟨r11, h12, hf⟩ := bd1_some hf
    refine cl_i (wr := [(q_t_riggings, .inl (cI, 240, .inl t_riggings))]) (ws' := [(q_t, .inr (5, [.ref q_t_lengths, .ref q_t_riggings, .ref q_t_lesserSums, .int t_size, .int t_boxesRead])), (q_t_lengths, .inl (cI, 240, .inl t_lengths)), (q_t_riggings, .inl (cI, 240, .inl t_riggings))]) hA hw [0, 1] [2] [1, 2, 0] rfl rfl rfl (by decide) rfl rfl (va_runV (As := [.int p1]) (rest := []) S (c_X5_lengthOf l D cI cZ cJ cO _ q_t q_t_lengths q_t_riggings q_t_lesserSums N p1 t_size t_boxesRead t_lengths r11 h12) (cwV 1 hts gX5_isBehind_X5_lengthOf rfl rfl rfl (by decide +kernel) ⟨Nat.le_of_ble_eq_true rfl, Nat.le_of_ble_eq_true rfl⟩) (pre_V hK hN hw [0, 1] rfl rfl (C := RX5) (T := TX5) (N := 5) (ci := 5) (q0 := 0) rfl rfl) rfl rfl hl.1 rfl (lv_room (Nat.le_of_ble_eq_true rfl)) dX5_isBehind_15 ⟨Nat.zero_le _, Nat.zero_le _⟩) (fun H locs hw => ?_)
    refine lv_aload_n hx hb dX5_isBehind_18 rfl (lv_at hl 0 rfl) ?_
    refine lv_iload_n hx hb dX5_isBehind_19 rfl (lv_at hl 2 rfl) ?_
    obtain ⟨r13, h14, hf⟩ := bd1_some hf
    refine cl_i (wr := [(q_t_riggings, .inl (cI, 240, .inl t_riggings))]) (ws' := [(q_t, .inr (5, [.ref q_t_lengths, .ref q_t_riggings, .ref q_t_lesserSums, .int t_size, .int t_boxesRead])), (q_t_lengths, .inl (cI, 240, .inl t_lengths)), (q_t_riggings, .inl (cI, 240, .inl t_riggings))]) hA hw [0, 1] [2] [1, 2, 0] rfl rfl rfl (by decide) rfl rfl (va_runV (As := [.int p2]) (rest := [.int r11]) S (c_X5_lengthOf l D cI cZ cJ cO _ q_t q_t_lengths q_t_riggings q_t_lesserSums N p2 t_size t_boxesRead t_lengths r13 h14) (cwV 1 hts gX5_isBehind_X5_lengthOf rfl rfl rfl (by decide +kernel) ⟨Nat.le_of_ble_eq_true rfl, Nat.le_of_ble_eq_true rfl⟩) (pre_V hK hN hw [0, 1] rfl rfl (C := RX5) (T := TX5) (N := 5) (ci := 5) (q0 := 0) rfl rfl) rfl rfl hl.1 rfl (lv_room (Nat.le_of_ble_eq_true rfl)) dX5_isBehind_20 ⟨Nat.zero_le _, Nat.zero_le _⟩) (fun H locs hw => ?_)
    refine lv_icmp_ge (tgt := 30) hx hb dX5_isBehind_23 (by decide) (fun c15 => ?_) (fun c15 => ?_)
    · have hf := (if_pos c15).symm.trans hf
      refine lv_iconst (v := (0 : Int32)) hx hb dX5_isBehind_30 (by decide) ?_
      obtain rfl := Option.some.inj hf
      exact rt_z S hr hlk hw dX5_isBehind_31 rfl
    · have hf := (if_neg c15).symm.trans hf
      refine lv_iconst (v := (1 : Int32)) hx hb dX5_isBehind_26 (by decide) ?_
      refine lv_goto (tgt := 31) hx hb dX5_isBehind_27 (by decide) ?_
      obtain rfl := Option.some.inj hf
      exact rt_z S hr hlk hw dX5_isBehind_31 rfl

def L_X5_sort_12 (N : Nat) (t_size : Int32) (K : (Nat → Int32) → (Nat → Int32) → Option ((Nat → Int32) × (Nat → Int32))) : Nat → Int32 → (Nat → Int32) → (Nat → Int32) → Option ((Nat → Int32) × (Nat → Int32))
  | 0, _, _, _ => none
  | n + 1, x2, w_t_lengths, w_t_riggings => (if x2 ≤ (0 : Int32) then (K w_t_lengths w_t_riggings) else (bd1 (f_X5_isBehind N (x2 - (1 : Int32)) x2 t_size w_t_lengths w_t_riggings) (fun r3 => (if r3 = (0 : Int32) then (K w_t_lengths w_t_riggings) else (bd2 (f_X5_swap N (x2 - (1 : Int32)) x2 t_size w_t_lengths w_t_riggings) (fun u6 u7 => (L_X5_sort_12 N t_size K n (x2 + (-1 : Int32)) u6 u7)))))))

def L_X5_sort_2 (N : Nat) (t_size : Int32) (K : (Nat → Int32) → (Nat → Int32) → Option ((Nat → Int32) × (Nat → Int32))) : Nat → Int32 → (Nat → Int32) → (Nat → Int32) → Option ((Nat → Int32) × (Nat → Int32))
  | 0, _, _, _ => none
  | n + 1, x1, w_t_lengths, w_t_riggings => (if t_size ≤ x1 then (K w_t_lengths w_t_riggings) else (L_X5_sort_12 N t_size (fun u9 u10 => (L_X5_sort_2 N t_size K n (x1 + (1 : Int32)) u9 u10)) N x1 w_t_lengths w_t_riggings))

def f_X5_sort (N : Nat)  (t_size : Int32) (t_lengths : (Nat → Int32)) (t_riggings : (Nat → Int32)) : Option ((Nat → Int32) × (Nat → Int32)) :=
  (L_X5_sort_2 N t_size (fun u11 u12 => (some (u11, u12))) N (1 : Int32) t_lengths t_riggings)

set_option maxHeartbeats 4000000 in
set_option maxRecDepth 100000 in
theorem c_X5_sort (l : Launch) (D : va_G) (cI cZ cJ cO : ClassId) (sz : Nat) (q_t q_t_lengths q_t_riggings q_t_lesserSums : Nat) (N : Nat)  (t_size : Int32) (t_boxesRead : Int32) (t_lengths : (Nat → Int32)) (t_riggings : (Nat → Int32)) (o_t_lengths : (Nat → Int32)) (o_t_riggings : (Nat → Int32)) (hf : f_X5_sort N t_size t_lengths t_riggings = some (o_t_lengths, o_t_riggings)) : Met l yX5_sort wsX5_sort ({ frames := 3, cells := 0, slots := 0, locals := 64 }) (PreC D (TY cI cZ cJ cO) [.ref q_t] [(q_t, .inr (5, [.ref q_t_lengths, .ref q_t_riggings, .ref q_t_lesserSums, .int t_size, .int t_boxesRead])), (q_t_lengths, .inl (cI, 240, .inl t_lengths)), (q_t_riggings, .inl (cI, 240, .inl t_riggings))] sz) (QcV D [(q_t, .inr (5, [.ref q_t_lengths, .ref q_t_riggings, .ref q_t_lesserSums, .int t_size, .int t_boxesRead])), (q_t_lengths, .inl (cI, 240, .inl o_t_lengths)), (q_t_riggings, .inl (cI, 240, .inl o_t_riggings))] (va_A [(q_t, .inr (5, [.ref q_t_lengths, .ref q_t_riggings, .ref q_t_lesserSums, .int t_size, .int t_boxesRead])), (q_t_lengths, .inl (cI, 240, .inl t_lengths)), (q_t_riggings, .inl (cI, 240, .inl t_riggings))] sz)) 0 0 (va_A [(q_t, .inr (5, [.ref q_t_lengths, .ref q_t_riggings, .ref q_t_lesserSums, .int t_size, .int t_boxesRead])), (q_t_lengths, .inl (cI, 240, .inl t_lengths)), (q_t_riggings, .inl (cI, 240, .inl t_riggings))] sz) := by
  refine ctr (cc := cX5_sort) (maxL := 3) (ret := none) (by decide) rfl (Nat.le_of_ble_eq_true rfl) ?_
  intro p e s m below meth c S hr hlk hnm hK hN hsz hA hw ls hl
  generalize va_A [(q_t, .inr (5, [.ref q_t_lengths, .ref q_t_riggings, .ref q_t_lesserSums, .int t_size, .int t_boxesRead])), (q_t_lengths, .inl (cI, 240, .inl t_lengths)), (q_t_riggings, .inl (cI, 240, .inl t_riggings))] sz = A at hA hw ⊢
  have S : CallFix p m c cX5_sort 3 s ([.ref q_t] : List Value).toArray wsX5_sort RX5 := S
  have hx := S.1
  have hb := S.2.1
  have hts := S.2.2.2.2
  have hl : lv_has ls 3 [(0, .ref q_t)] := hl
  have hinX5 : ∀ w ∈ u_ws RX5 TX5 5, w ∈ wsX5_sort := by decide +kernel
  have k21 : Cond.fieldLink RX5 21 "BallBoxes$Strings" "size" "I" ∈ wsX5_sort := by decide +kernel
  have Lp12 : ∀ (x1 : Int32) (K : (Nat → Int32) → (Nat → Int32) → Option ((Nat → Int32) × (Nat → Int32))), (∀ (z_t_lengths : (Nat → Int32)) (z_t_riggings : (Nat → Int32)) (H : Heap) (locs : List Loc) (ls : Array Slot), Wd D A s.heap [(q_t, .inr (5, [.ref q_t_lengths, .ref q_t_riggings, .ref q_t_lesserSums, .int t_size, .int t_boxesRead])), (q_t_lengths, .inl (cI, 240, .inl z_t_lengths)), (q_t_riggings, .inl (cI, 240, .inl z_t_riggings))] H locs → lv_has ls 3 [(0, .ref q_t), (1, .int x1)] → K z_t_lengths z_t_riggings = some (o_t_lengths, o_t_riggings) → W p l e ({ frames := 3, cells := 0, slots := 0, locals := 64 } : Room) s m ([.ref q_t] : List Value).toArray below meth c H locs 0 0 (MQ below (QcV D [(q_t, .inr (5, [.ref q_t_lengths, .ref q_t_riggings, .ref q_t_lesserSums, .int t_size, .int t_boxesRead])), (q_t_lengths, .inl (cI, 240, .inl o_t_lengths)), (q_t_riggings, .inl (cI, 240, .inl o_t_riggings))] A) ([.ref q_t] : List Value).toArray s 0 0 A) (F0 m 41 ls [])) → ∀ (n : Nat) (x2 : Int32) (w_t_lengths : (Nat → Int32)) (w_t_riggings : (Nat → Int32)) (H : Heap) (locs : List Loc) (ls : Array Slot), Wd D A s.heap [(q_t, .inr (5, [.ref q_t_lengths, .ref q_t_riggings, .ref q_t_lesserSums, .int t_size, .int t_boxesRead])), (q_t_lengths, .inl (cI, 240, .inl w_t_lengths)), (q_t_riggings, .inl (cI, 240, .inl w_t_riggings))] H locs → lv_has ls 3 [(0, .ref q_t), (1, .int x1), (2, .int x2)] → L_X5_sort_12 N t_size K n x2 w_t_lengths w_t_riggings = some (o_t_lengths, o_t_riggings) → W p l e ({ frames := 3, cells := 0, slots := 0, locals := 64 } : Room) s m ([.ref q_t] : List Value).toArray below meth c H locs 0 0 (MQ below (QcV D [(q_t, .inr (5, [.ref q_t_lengths, .ref q_t_riggings, .ref q_t_lesserSums, .int t_size, .int t_boxesRead])), (q_t_lengths, .inl (cI, 240, .inl o_t_lengths)), (q_t_riggings, .inl (cI, 240, .inl o_t_riggings))] A) ([.ref q_t] : List Value).toArray s 0 0 A) (F0 m 12 ls []) := by
    intro x1 K hKx n
    induction n with
    | zero =>
      intro x2 w_t_lengths w_t_riggings H locs ls hw hl hf
      rw [L_X5_sort_12] at hf
      cases hf
    | succ n ih =>
      intro x2 w_t_lengths w_t_riggings H locs ls hw hl hf
      rw [L_X5_sort_12] at hf
      refine lv_iload_n hx hb dX5_sort_12 rfl (lv_at hl 2 rfl) ?_
      refine lv_if_le (tgt := 41) hx hb dX5_sort_13 (by decide) (fun c2 => ?_) (fun c2 => ?_)
      · have hf := (if_pos c2).symm.trans hf
        exact hKx w_t_lengths w_t_riggings _ _ _ hw (lv_sub hl [0, 1] rfl) hf
      · have hf := (if_neg c2).symm.trans hf
        refine lv_aload_n hx hb dX5_sort_16 rfl (lv_at hl 0 rfl) ?_
        refine lv_iload_n hx hb dX5_sort_17 rfl (lv_at hl 2 rfl) ?_
        refine lv_iconst (v := (1 : Int32)) hx hb dX5_sort_18 (by decide) ?_
        refine lv_isub hx hb dX5_sort_19 ?_
        refine lv_iload_n hx hb dX5_sort_20 rfl (lv_at hl 2 rfl) ?_
        obtain ⟨r3, h4, hf⟩ := bd1_some hf
        refine cl_i (wr := []) (ws' := [(q_t, .inr (5, [.ref q_t_lengths, .ref q_t_riggings, .ref q_t_lesserSums, .int t_size, .int t_boxesRead])), (q_t_lengths, .inl (cI, 240, .inl w_t_lengths)), (q_t_riggings, .inl (cI, 240, .inl w_t_riggings))]) hA hw [0, 1, 2] [] [0, 1, 2] rfl rfl rfl (by decide) rfl rfl (va_runV (As := [.int (x2 - (1 : Int32)), .int x2]) (rest := []) S (c_X5_isBehind l D cI cZ cJ cO _ q_t q_t_lengths q_t_riggings q_t_lesserSums N (x2 - (1 : Int32)) x2 t_size t_boxesRead w_t_lengths w_t_riggings r3 h4) (cwV 2 hts gX5_sort_X5_isBehind rfl rfl rfl (by decide +kernel) ⟨Nat.le_of_ble_eq_true rfl, Nat.le_of_ble_eq_true rfl⟩) (pre_V hK hN hw [0, 1, 2] rfl rfl (C := RX5) (T := TX5) (N := 5) (ci := 5) (q0 := 0) rfl rfl) rfl rfl hl.1 rfl (lv_room (Nat.le_of_ble_eq_true rfl)) dX5_sort_21 ⟨Nat.zero_le _, Nat.zero_le _⟩) (fun H locs hw => ?_)
        refine lv_if_eq (tgt := 41) hx hb dX5_sort_24 (by decide) (fun c5 => ?_) (fun c5 => ?_)
        · have hf := (if_pos c5).symm.trans hf
          exact hKx w_t_lengths w_t_riggings _ _ _ hw (lv_sub hl [0, 1] rfl) hf
        · have hf := (if_neg c5).symm.trans hf
          refine lv_aload_n hx hb dX5_sort_27 rfl (lv_at hl 0 rfl) ?_
          refine lv_iload_n hx hb dX5_sort_28 rfl (lv_at hl 2 rfl) ?_
          refine lv_iconst (v := (1 : Int32)) hx hb dX5_sort_29 (by decide) ?_
          refine lv_isub hx hb dX5_sort_30 ?_
          refine lv_iload_n hx hb dX5_sort_31 rfl (lv_at hl 2 rfl) ?_
          obtain ⟨u6, u7, h8, hf⟩ := bd2_some hf
          refine cl_v (wr := []) (ws' := [(q_t, .inr (5, [.ref q_t_lengths, .ref q_t_riggings, .ref q_t_lesserSums, .int t_size, .int t_boxesRead])), (q_t_lengths, .inl (cI, 240, .inl u6)), (q_t_riggings, .inl (cI, 240, .inl u7))]) hA hw [0, 1, 2] [] [0, 1, 2] rfl rfl rfl (by decide) rfl rfl (va_runV (As := [.int (x2 - (1 : Int32)), .int x2]) (rest := []) S (c_X5_swap l D cI cZ cJ cO _ q_t q_t_lengths q_t_riggings q_t_lesserSums N (x2 - (1 : Int32)) x2 t_size t_boxesRead w_t_lengths w_t_riggings u6 u7 h8) (cwV 2 hts gX5_sort_X5_swap rfl rfl rfl (by decide +kernel) ⟨Nat.le_of_ble_eq_true rfl, Nat.le_of_ble_eq_true rfl⟩) (pre_V hK hN hw [0, 1, 2] rfl rfl (C := RX5) (T := TX5) (N := 5) (ci := 5) (q0 := 0) rfl rfl) rfl rfl hl.1 rfl (lv_room (Nat.le_of_ble_eq_true rfl)) dX5_sort_32 ⟨Nat.zero_le _, Nat.zero_le _⟩) (fun H locs hw => ?_)
          refine lv_iinc (v := (x2 + (-1 : Int32))) (lv' := [(2, .int (x2 + (-1 : Int32))), (0, .ref q_t), (1, .int x1)]) hx hb dX5_sort_35 hl (k := 2) rfl rfl (by decide) rfl (fun ls hl => ?_)
          refine lv_goto (tgt := 12) hx hb dX5_sort_38 (by decide) ?_
          exact ih (x2 + (-1 : Int32)) u6 u7 _ _ _ hw (lv_sub hl [1, 2, 0] rfl) hf
  have Lp2 : ∀  (K : (Nat → Int32) → (Nat → Int32) → Option ((Nat → Int32) × (Nat → Int32))), (∀ (z_t_lengths : (Nat → Int32)) (z_t_riggings : (Nat → Int32)) (H : Heap) (locs : List Loc) (ls : Array Slot), Wd D A s.heap [(q_t, .inr (5, [.ref q_t_lengths, .ref q_t_riggings, .ref q_t_lesserSums, .int t_size, .int t_boxesRead])), (q_t_lengths, .inl (cI, 240, .inl z_t_lengths)), (q_t_riggings, .inl (cI, 240, .inl z_t_riggings))] H locs → lv_has ls 3 [] → K z_t_lengths z_t_riggings = some (o_t_lengths, o_t_riggings) → W p l e ({ frames := 3, cells := 0, slots := 0, locals := 64 } : Room) s m ([.ref q_t] : List Value).toArray below meth c H locs 0 0 (MQ below (QcV D [(q_t, .inr (5, [.ref q_t_lengths, .ref q_t_riggings, .ref q_t_lesserSums, .int t_size, .int t_boxesRead])), (q_t_lengths, .inl (cI, 240, .inl o_t_lengths)), (q_t_riggings, .inl (cI, 240, .inl o_t_riggings))] A) ([.ref q_t] : List Value).toArray s 0 0 A) (F0 m 47 ls [])) → ∀ (n : Nat) (x1 : Int32) (w_t_lengths : (Nat → Int32)) (w_t_riggings : (Nat → Int32)) (H : Heap) (locs : List Loc) (ls : Array Slot), Wd D A s.heap [(q_t, .inr (5, [.ref q_t_lengths, .ref q_t_riggings, .ref q_t_lesserSums, .int t_size, .int t_boxesRead])), (q_t_lengths, .inl (cI, 240, .inl w_t_lengths)), (q_t_riggings, .inl (cI, 240, .inl w_t_riggings))] H locs → lv_has ls 3 [(0, .ref q_t), (1, .int x1)] → L_X5_sort_2 N t_size K n x1 w_t_lengths w_t_riggings = some (o_t_lengths, o_t_riggings) → W p l e ({ frames := 3, cells := 0, slots := 0, locals := 64 } : Room) s m ([.ref q_t] : List Value).toArray below meth c H locs 0 0 (MQ below (QcV D [(q_t, .inr (5, [.ref q_t_lengths, .ref q_t_riggings, .ref q_t_lesserSums, .int t_size, .int t_boxesRead])), (q_t_lengths, .inl (cI, 240, .inl o_t_lengths)), (q_t_riggings, .inl (cI, 240, .inl o_t_riggings))] A) ([.ref q_t] : List Value).toArray s 0 0 A) (F0 m 2 ls []) := by
    intro  K hKx n
    induction n with
    | zero =>
      intro x1 w_t_lengths w_t_riggings H locs ls hw hl hf
      rw [L_X5_sort_2] at hf
      cases hf
    | succ n ih =>
      intro x1 w_t_lengths w_t_riggings H locs ls hw hl hf
      rw [L_X5_sort_2] at hf
      refine lv_iload_n hx hb dX5_sort_2 rfl (lv_at hl 1 rfl) ?_
      refine lv_aload_n hx hb dX5_sort_3 rfl (lv_at hl 0 rfl) ?_
      refine g_get (ci := 5) (C := RX5) (T := TX5) (N := 5) S hinX5 hK hw 0 3 k21 dX5_sort_4 rfl rfl (by decide) rfl ?_
      refine lv_icmp_ge (tgt := 47) hx hb dX5_sort_7 (by decide) (fun c1 => ?_) (fun c1 => ?_)
      · have hf := (if_pos c1).symm.trans hf
        exact hKx w_t_lengths w_t_riggings _ _ _ hw (lv_sub hl [] rfl) hf
      · have hf := (if_neg c1).symm.trans hf
        refine lv_iload_n hx hb dX5_sort_10 rfl (lv_at hl 1 rfl) ?_
        refine lv_istore_n (lv' := [(2, .int x1), (0, .ref q_t), (1, .int x1)]) hx hb dX5_sort_11 rfl hl (by decide) rfl (fun ls hl => ?_)
        refine Lp12 x1 _ (fun u9 u10 H locs ls hw hl hf => ?_) N x1 w_t_lengths w_t_riggings _ _ _ hw (lv_sub hl [1, 2, 0] rfl) hf
        refine lv_iinc (v := (x1 + (1 : Int32))) (lv' := [(1, .int (x1 + (1 : Int32))), (0, .ref q_t)]) hx hb dX5_sort_41 hl (k := 1) rfl rfl (by decide) rfl (fun ls hl => ?_)
        refine lv_goto (tgt := 2) hx hb dX5_sort_44 (by decide) ?_
        exact ih (x1 + (1 : Int32)) u9 u10 _ _ _ hw (lv_sub hl [1, 0] rfl) hf
  unfold f_X5_sort at hf
  refine lv_iconst (v := (1 : Int32)) hx hb dX5_sort_0 (by decide) ?_
  refine lv_istore_n (lv' := [(1, .int (1 : Int32)), (0, .ref q_t)]) hx hb dX5_sort_1 rfl hl (by decide) rfl (fun ls hl => ?_)
  refine Lp2  _ (fun u11 u12 H locs ls hw hl hf => ?_) N (1 : Int32) t_lengths t_riggings _ _ _ hw (lv_sub hl [1, 0] rfl) hf
  obtain ⟨rfl, rfl⟩ := pr2 (Option.some.inj hf)
  exact rt_v S hr hlk hw dX5_sort_47

def f_X6_set (N : Nat) (p1 : Int32) (p2 : Int32) (t_theRow_boxes : (Nat → Int32)) : Option (Int32 × (Nat → Int32)) :=
  (bd1 (f_X6_isBox N p1) (fun r1 => (if r1 = (0 : Int32) then (some ((-2 : Int32), t_theRow_boxes)) else (if p2 = (0 : Int32) then (bd1 (f_X3_ballAt N p1 t_theRow_boxes) (fun r5 => (if r5 = (0 : Int32) then (some ((0 : Int32), t_theRow_boxes)) else (bd1 (f_X3_place N p1 (0 : Int32) t_theRow_boxes) (fun u8 => (some ((1 : Int32), u8))))))) else (bd1 (f_X3_ballAt N p1 t_theRow_boxes) (fun r10 => (if r10 = (1 : Int32) then (some ((0 : Int32), t_theRow_boxes)) else (bd1 (f_X3_place N p1 (1 : Int32) t_theRow_boxes) (fun u13 => (some ((1 : Int32), u13)))))))))))

set_option maxHeartbeats 4000000 in
set_option maxRecDepth 100000 in
theorem c_X6_set (l : Launch) (D : va_G) (cI cZ cJ cO : ClassId) (sz : Nat) (q_t q_t_theRow q_t_pairs q_t_latestStrings q_t_leapStrings q_t_theRing q_t_trial q_t_sheets q_t_theRow_boxes q_t_theRow_made : Nat) (N : Nat) (p1 : Int32) (p2 : Int32) (t_moves : Int32) (t_latestFinding : Int32) (t_theRow_boxes : (Nat → Int32)) (r : Int32) (o_t_theRow_boxes : (Nat → Int32)) (hf : f_X6_set N p1 p2 t_theRow_boxes = some (r, o_t_theRow_boxes)) : Met l yX6_set wsX6_set ({ frames := 2, cells := 0, slots := 0, locals := 42 }) (PreC D (TY cI cZ cJ cO) [.ref q_t, .int p1, .int p2] [(q_t, .inr (6, [.ref q_t_theRow, .ref q_t_pairs, .ref q_t_latestStrings, .ref q_t_leapStrings, .ref q_t_theRing, .ref q_t_trial, .ref q_t_sheets, .int t_moves, .int t_latestFinding])), (q_t_theRow, .inr (3, [.ref q_t_theRow_boxes, .ref q_t_theRow_made])), (q_t_theRow_boxes, .inl (cI, 240, .inl t_theRow_boxes))] sz) (QcI D [(q_t, .inr (6, [.ref q_t_theRow, .ref q_t_pairs, .ref q_t_latestStrings, .ref q_t_leapStrings, .ref q_t_theRing, .ref q_t_trial, .ref q_t_sheets, .int t_moves, .int t_latestFinding])), (q_t_theRow, .inr (3, [.ref q_t_theRow_boxes, .ref q_t_theRow_made])), (q_t_theRow_boxes, .inl (cI, 240, .inl o_t_theRow_boxes))] (va_A [(q_t, .inr (6, [.ref q_t_theRow, .ref q_t_pairs, .ref q_t_latestStrings, .ref q_t_leapStrings, .ref q_t_theRing, .ref q_t_trial, .ref q_t_sheets, .int t_moves, .int t_latestFinding])), (q_t_theRow, .inr (3, [.ref q_t_theRow_boxes, .ref q_t_theRow_made])), (q_t_theRow_boxes, .inl (cI, 240, .inl t_theRow_boxes))] sz) r) 0 0 (va_A [(q_t, .inr (6, [.ref q_t_theRow, .ref q_t_pairs, .ref q_t_latestStrings, .ref q_t_leapStrings, .ref q_t_theRing, .ref q_t_trial, .ref q_t_sheets, .int t_moves, .int t_latestFinding])), (q_t_theRow, .inr (3, [.ref q_t_theRow_boxes, .ref q_t_theRow_made])), (q_t_theRow_boxes, .inl (cI, 240, .inl t_theRow_boxes))] sz) := by
  refine ctr (cc := cX6_set) (maxL := 4) (ret := (some .int)) (by decide) rfl (Nat.le_of_ble_eq_true rfl) ?_
  intro p e s m below meth c S hr hlk hnm hK hN hsz hA hw ls hl
  generalize va_A [(q_t, .inr (6, [.ref q_t_theRow, .ref q_t_pairs, .ref q_t_latestStrings, .ref q_t_leapStrings, .ref q_t_theRing, .ref q_t_trial, .ref q_t_sheets, .int t_moves, .int t_latestFinding])), (q_t_theRow, .inr (3, [.ref q_t_theRow_boxes, .ref q_t_theRow_made])), (q_t_theRow_boxes, .inl (cI, 240, .inl t_theRow_boxes))] sz = A at hA hw ⊢
  have S : CallFix p m c cX6_set 4 s ([.ref q_t, .int p1, .int p2] : List Value).toArray wsX6_set RX6 := S
  have hx := S.1
  have hb := S.2.1
  have hts := S.2.2.2.2
  have hl : lv_has ls 4 [(0, .ref q_t), (1, .int p1), (2, .int p2)] := hl
  have hinX6 : ∀ w ∈ u_ws RX6 TX6 9, w ∈ wsX6_set := by decide +kernel
  have k10 : Cond.fieldLink RX6 10 "BallBoxes" "theRow" "LBallBoxes$Row;" ∈ wsX6_set := by decide +kernel
  unfold f_X6_set at hf
  refine lv_iload_n hx hb dX6_set_0 rfl (lv_at hl 1 rfl) ?_
  obtain ⟨r1, h2, hf⟩ := bd1_some hf
  refine cl_i (wr := [(q_t, .inr (6, [.ref q_t_theRow, .ref q_t_pairs, .ref q_t_latestStrings, .ref q_t_leapStrings, .ref q_t_theRing, .ref q_t_trial, .ref q_t_sheets, .int t_moves, .int t_latestFinding])), (q_t_theRow, .inr (3, [.ref q_t_theRow_boxes, .ref q_t_theRow_made])), (q_t_theRow_boxes, .inl (cI, 240, .inl t_theRow_boxes))]) (ws' := [(q_t, .inr (6, [.ref q_t_theRow, .ref q_t_pairs, .ref q_t_latestStrings, .ref q_t_leapStrings, .ref q_t_theRing, .ref q_t_trial, .ref q_t_sheets, .int t_moves, .int t_latestFinding])), (q_t_theRow, .inr (3, [.ref q_t_theRow_boxes, .ref q_t_theRow_made])), (q_t_theRow_boxes, .inl (cI, 240, .inl t_theRow_boxes))]) hA hw [] [0, 1, 2] [0, 1, 2] rfl rfl rfl (by decide) rfl rfl (va_runS (As := [.int p1]) (rest := []) S (c_X6_isBox l D cI cZ cJ cO _ N p1 r1 h2) (va_cwS 1 hts gX6_set_X6_isBox rfl rfl rfl (by decide +kernel) ⟨Nat.le_of_ble_eq_true rfl, Nat.le_of_ble_eq_true rfl⟩) (pre_S hK hN hw [] rfl rfl) rfl rfl hl.1 rfl (lv_room (Nat.le_of_ble_eq_true rfl)) dX6_set_1 ⟨Nat.zero_le _, Nat.zero_le _⟩) (fun H locs hw => ?_)
  refine lv_if_ne (tgt := 10) hx hb dX6_set_4 (by decide) (fun c3 => ?_) (fun c3 => ?_)
  · have hf := (if_neg c3).symm.trans hf
    refine lv_iload_n hx hb dX6_set_10 rfl (lv_at hl 2 rfl) ?_
    refine lv_if_eq (tgt := 18) hx hb dX6_set_11 (by decide) (fun c4 => ?_) (fun c4 => ?_)
    · have hf := (if_pos c4).symm.trans hf
      refine lv_iconst (v := (0 : Int32)) hx hb dX6_set_18 (by decide) ?_
      refine lv_istore_n (lv' := [(3, .int (0 : Int32)), (0, .ref q_t), (1, .int p1), (2, .int p2)]) hx hb dX6_set_19 rfl hl (by decide) rfl (fun ls hl => ?_)
      refine lv_aload_n hx hb dX6_set_20 rfl (lv_at hl 1 rfl) ?_
      refine g_get (ci := 6) (C := RX6) (T := TX6) (N := 9) S hinX6 hK hw 0 0 k10 dX6_set_21 rfl rfl (by decide) rfl ?_
      refine lv_iload_n hx hb dX6_set_24 rfl (lv_at hl 2 rfl) ?_
      obtain ⟨r5, h6, hf⟩ := bd1_some hf
      refine cl_i (wr := [(q_t, .inr (6, [.ref q_t_theRow, .ref q_t_pairs, .ref q_t_latestStrings, .ref q_t_leapStrings, .ref q_t_theRing, .ref q_t_trial, .ref q_t_sheets, .int t_moves, .int t_latestFinding]))]) (ws' := [(q_t, .inr (6, [.ref q_t_theRow, .ref q_t_pairs, .ref q_t_latestStrings, .ref q_t_leapStrings, .ref q_t_theRing, .ref q_t_trial, .ref q_t_sheets, .int t_moves, .int t_latestFinding])), (q_t_theRow, .inr (3, [.ref q_t_theRow_boxes, .ref q_t_theRow_made])), (q_t_theRow_boxes, .inl (cI, 240, .inl t_theRow_boxes))]) hA hw [1, 2] [0] [0, 1, 2] rfl rfl rfl (by decide) rfl rfl (va_runV (As := [.int p1]) (rest := []) S (c_X3_ballAt l D cI cZ cJ cO _ q_t_theRow q_t_theRow_boxes q_t_theRow_made N p1 t_theRow_boxes r5 h6) (cwV 1 hts gX6_set_X3_ballAt rfl rfl rfl (by decide +kernel) ⟨Nat.le_of_ble_eq_true rfl, Nat.le_of_ble_eq_true rfl⟩) (pre_V hK hN hw [1, 2] rfl rfl (C := RX3) (T := TX3) (N := 2) (ci := 3) (q0 := 0) rfl rfl) rfl rfl hl.1 rfl (lv_room (Nat.le_of_ble_eq_true rfl)) dX6_set_25 ⟨Nat.zero_le _, Nat.zero_le _⟩) (fun H locs hw => ?_)
      refine lv_iload_n hx hb dX6_set_28 rfl (lv_at hl 0 rfl) ?_
      refine lv_icmp_ne (tgt := 34) hx hb dX6_set_29 (by decide) (fun c7 => ?_) (fun c7 => ?_)
      · have hf := (if_neg c7).symm.trans hf
        refine lv_aload_n hx hb dX6_set_34 rfl (lv_at hl 1 rfl) ?_
        refine g_get (ci := 6) (C := RX6) (T := TX6) (N := 9) S hinX6 hK hw 0 0 k10 dX6_set_35 rfl rfl (by decide) rfl ?_
        refine lv_iload_n hx hb dX6_set_38 rfl (lv_at hl 2 rfl) ?_
        refine lv_iload_n hx hb dX6_set_39 rfl (lv_at hl 0 rfl) ?_
        obtain ⟨u8, h9, hf⟩ := bd1_some hf
        refine cl_v (wr := [(q_t, .inr (6, [.ref q_t_theRow, .ref q_t_pairs, .ref q_t_latestStrings, .ref q_t_leapStrings, .ref q_t_theRing, .ref q_t_trial, .ref q_t_sheets, .int t_moves, .int t_latestFinding]))]) (ws' := [(q_t, .inr (6, [.ref q_t_theRow, .ref q_t_pairs, .ref q_t_latestStrings, .ref q_t_leapStrings, .ref q_t_theRing, .ref q_t_trial, .ref q_t_sheets, .int t_moves, .int t_latestFinding])), (q_t_theRow, .inr (3, [.ref q_t_theRow_boxes, .ref q_t_theRow_made])), (q_t_theRow_boxes, .inl (cI, 240, .inl u8))]) hA hw [1, 2] [0] [0, 1, 2] rfl rfl rfl (by decide) rfl rfl (va_runV (As := [.int p1, .int (0 : Int32)]) (rest := []) S (c_X3_place l D cI cZ cJ cO _ q_t_theRow q_t_theRow_boxes q_t_theRow_made N p1 (0 : Int32) t_theRow_boxes u8 h9) (cwV 2 hts gX6_set_X3_place rfl rfl rfl (by decide +kernel) ⟨Nat.le_of_ble_eq_true rfl, Nat.le_of_ble_eq_true rfl⟩) (pre_V hK hN hw [1, 2] rfl rfl (C := RX3) (T := TX3) (N := 2) (ci := 3) (q0 := 0) rfl rfl) rfl rfl hl.1 rfl (lv_room (Nat.le_of_ble_eq_true rfl)) dX6_set_40 ⟨Nat.zero_le _, Nat.zero_le _⟩) (fun H locs hw => ?_)
        refine lv_iconst (v := (1 : Int32)) hx hb dX6_set_43 (by decide) ?_
        obtain ⟨rfl, rfl⟩ := pr2 (Option.some.inj hf)
        exact rt_i S hr hlk hw dX6_set_44
      · have hf := (if_pos c7).symm.trans hf
        refine lv_iconst (v := (0 : Int32)) hx hb dX6_set_32 (by decide) ?_
        obtain ⟨rfl, rfl⟩ := pr2 (Option.some.inj hf)
        exact rt_i S hr hlk hw dX6_set_33
    · have hf := (if_neg c4).symm.trans hf
      refine lv_iconst (v := (1 : Int32)) hx hb dX6_set_14 (by decide) ?_
      refine lv_goto (tgt := 19) hx hb dX6_set_15 (by decide) ?_
      refine lv_istore_n (lv' := [(3, .int (1 : Int32)), (0, .ref q_t), (1, .int p1), (2, .int p2)]) hx hb dX6_set_19 rfl hl (by decide) rfl (fun ls hl => ?_)
      refine lv_aload_n hx hb dX6_set_20 rfl (lv_at hl 1 rfl) ?_
      refine g_get (ci := 6) (C := RX6) (T := TX6) (N := 9) S hinX6 hK hw 0 0 k10 dX6_set_21 rfl rfl (by decide) rfl ?_
      refine lv_iload_n hx hb dX6_set_24 rfl (lv_at hl 2 rfl) ?_
      obtain ⟨r10, h11, hf⟩ := bd1_some hf
      refine cl_i (wr := [(q_t, .inr (6, [.ref q_t_theRow, .ref q_t_pairs, .ref q_t_latestStrings, .ref q_t_leapStrings, .ref q_t_theRing, .ref q_t_trial, .ref q_t_sheets, .int t_moves, .int t_latestFinding]))]) (ws' := [(q_t, .inr (6, [.ref q_t_theRow, .ref q_t_pairs, .ref q_t_latestStrings, .ref q_t_leapStrings, .ref q_t_theRing, .ref q_t_trial, .ref q_t_sheets, .int t_moves, .int t_latestFinding])), (q_t_theRow, .inr (3, [.ref q_t_theRow_boxes, .ref q_t_theRow_made])), (q_t_theRow_boxes, .inl (cI, 240, .inl t_theRow_boxes))]) hA hw [1, 2] [0] [0, 1, 2] rfl rfl rfl (by decide) rfl rfl (va_runV (As := [.int p1]) (rest := []) S (c_X3_ballAt l D cI cZ cJ cO _ q_t_theRow q_t_theRow_boxes q_t_theRow_made N p1 t_theRow_boxes r10 h11) (cwV 1 hts gX6_set_X3_ballAt rfl rfl rfl (by decide +kernel) ⟨Nat.le_of_ble_eq_true rfl, Nat.le_of_ble_eq_true rfl⟩) (pre_V hK hN hw [1, 2] rfl rfl (C := RX3) (T := TX3) (N := 2) (ci := 3) (q0 := 0) rfl rfl) rfl rfl hl.1 rfl (lv_room (Nat.le_of_ble_eq_true rfl)) dX6_set_25 ⟨Nat.zero_le _, Nat.zero_le _⟩) (fun H locs hw => ?_)
      refine lv_iload_n hx hb dX6_set_28 rfl (lv_at hl 0 rfl) ?_
      refine lv_icmp_ne (tgt := 34) hx hb dX6_set_29 (by decide) (fun c12 => ?_) (fun c12 => ?_)
      · have hf := (if_neg c12).symm.trans hf
        refine lv_aload_n hx hb dX6_set_34 rfl (lv_at hl 1 rfl) ?_
        refine g_get (ci := 6) (C := RX6) (T := TX6) (N := 9) S hinX6 hK hw 0 0 k10 dX6_set_35 rfl rfl (by decide) rfl ?_
        refine lv_iload_n hx hb dX6_set_38 rfl (lv_at hl 2 rfl) ?_
        refine lv_iload_n hx hb dX6_set_39 rfl (lv_at hl 0 rfl) ?_
        obtain ⟨u13, h14, hf⟩ := bd1_some hf
        refine cl_v (wr := [(q_t, .inr (6, [.ref q_t_theRow, .ref q_t_pairs, .ref q_t_latestStrings, .ref q_t_leapStrings, .ref q_t_theRing, .ref q_t_trial, .ref q_t_sheets, .int t_moves, .int t_latestFinding]))]) (ws' := [(q_t, .inr (6, [.ref q_t_theRow, .ref q_t_pairs, .ref q_t_latestStrings, .ref q_t_leapStrings, .ref q_t_theRing, .ref q_t_trial, .ref q_t_sheets, .int t_moves, .int t_latestFinding])), (q_t_theRow, .inr (3, [.ref q_t_theRow_boxes, .ref q_t_theRow_made])), (q_t_theRow_boxes, .inl (cI, 240, .inl u13))]) hA hw [1, 2] [0] [0, 1, 2] rfl rfl rfl (by decide) rfl rfl (va_runV (As := [.int p1, .int (1 : Int32)]) (rest := []) S (c_X3_place l D cI cZ cJ cO _ q_t_theRow q_t_theRow_boxes q_t_theRow_made N p1 (1 : Int32) t_theRow_boxes u13 h14) (cwV 2 hts gX6_set_X3_place rfl rfl rfl (by decide +kernel) ⟨Nat.le_of_ble_eq_true rfl, Nat.le_of_ble_eq_true rfl⟩) (pre_V hK hN hw [1, 2] rfl rfl (C := RX3) (T := TX3) (N := 2) (ci := 3) (q0 := 0) rfl rfl) rfl rfl hl.1 rfl (lv_room (Nat.le_of_ble_eq_true rfl)) dX6_set_40 ⟨Nat.zero_le _, Nat.zero_le _⟩) (fun H locs hw => ?_)
        refine lv_iconst (v := (1 : Int32)) hx hb dX6_set_43 (by decide) ?_
        obtain ⟨rfl, rfl⟩ := pr2 (Option.some.inj hf)
        exact rt_i S hr hlk hw dX6_set_44
      · have hf := (if_pos c12).symm.trans hf
        refine lv_iconst (v := (0 : Int32)) hx hb dX6_set_32 (by decide) ?_
        obtain ⟨rfl, rfl⟩ := pr2 (Option.some.inj hf)
        exact rt_i S hr hlk hw dX6_set_33
  · have hf := (if_pos c3).symm.trans hf
    refine lv_bipush (v := (-2 : Int32)) hx hb dX6_set_7 (by decide) ?_
    obtain ⟨rfl, rfl⟩ := pr2 (Option.some.inj hf)
    exact rt_i S hr hlk hw dX6_set_9

def f_X6_at (N : Nat) (p1 : Int32) (t_theRow_boxes : (Nat → Int32)) : Option (Int32) :=
  (bd1 (f_X6_isBox N p1) (fun r1 => (if r1 = (0 : Int32) then (some (-2 : Int32)) else (bd1 (f_X3_ballAt N p1 t_theRow_boxes) (fun r4 => (some r4))))))

set_option maxHeartbeats 4000000 in
set_option maxRecDepth 100000 in
theorem c_X6_at (l : Launch) (D : va_G) (cI cZ cJ cO : ClassId) (sz : Nat) (q_t q_t_theRow q_t_pairs q_t_latestStrings q_t_leapStrings q_t_theRing q_t_trial q_t_sheets q_t_theRow_boxes q_t_theRow_made : Nat) (N : Nat) (p1 : Int32) (t_moves : Int32) (t_latestFinding : Int32) (t_theRow_boxes : (Nat → Int32)) (r : Int32) (hf : f_X6_at N p1 t_theRow_boxes = some r) : Met l yX6_at wsX6_at ({ frames := 2, cells := 0, slots := 0, locals := 41 }) (PreC D (TY cI cZ cJ cO) [.ref q_t, .int p1] [(q_t, .inr (6, [.ref q_t_theRow, .ref q_t_pairs, .ref q_t_latestStrings, .ref q_t_leapStrings, .ref q_t_theRing, .ref q_t_trial, .ref q_t_sheets, .int t_moves, .int t_latestFinding])), (q_t_theRow, .inr (3, [.ref q_t_theRow_boxes, .ref q_t_theRow_made])), (q_t_theRow_boxes, .inl (cI, 240, .inl t_theRow_boxes))] sz) (QcI D [(q_t, .inr (6, [.ref q_t_theRow, .ref q_t_pairs, .ref q_t_latestStrings, .ref q_t_leapStrings, .ref q_t_theRing, .ref q_t_trial, .ref q_t_sheets, .int t_moves, .int t_latestFinding])), (q_t_theRow, .inr (3, [.ref q_t_theRow_boxes, .ref q_t_theRow_made])), (q_t_theRow_boxes, .inl (cI, 240, .inl t_theRow_boxes))] (va_A [(q_t, .inr (6, [.ref q_t_theRow, .ref q_t_pairs, .ref q_t_latestStrings, .ref q_t_leapStrings, .ref q_t_theRing, .ref q_t_trial, .ref q_t_sheets, .int t_moves, .int t_latestFinding])), (q_t_theRow, .inr (3, [.ref q_t_theRow_boxes, .ref q_t_theRow_made])), (q_t_theRow_boxes, .inl (cI, 240, .inl t_theRow_boxes))] sz) r) 0 0 (va_A [(q_t, .inr (6, [.ref q_t_theRow, .ref q_t_pairs, .ref q_t_latestStrings, .ref q_t_leapStrings, .ref q_t_theRing, .ref q_t_trial, .ref q_t_sheets, .int t_moves, .int t_latestFinding])), (q_t_theRow, .inr (3, [.ref q_t_theRow_boxes, .ref q_t_theRow_made])), (q_t_theRow_boxes, .inl (cI, 240, .inl t_theRow_boxes))] sz) := by
  refine ctr (cc := cX6_at) (maxL := 2) (ret := (some .int)) (by decide) rfl (Nat.le_of_ble_eq_true rfl) ?_
  intro p e s m below meth c S hr hlk hnm hK hN hsz hA hw ls hl
  generalize va_A [(q_t, .inr (6, [.ref q_t_theRow, .ref q_t_pairs, .ref q_t_latestStrings, .ref q_t_leapStrings, .ref q_t_theRing, .ref q_t_trial, .ref q_t_sheets, .int t_moves, .int t_latestFinding])), (q_t_theRow, .inr (3, [.ref q_t_theRow_boxes, .ref q_t_theRow_made])), (q_t_theRow_boxes, .inl (cI, 240, .inl t_theRow_boxes))] sz = A at hA hw ⊢
  have S : CallFix p m c cX6_at 2 s ([.ref q_t, .int p1] : List Value).toArray wsX6_at RX6 := S
  have hx := S.1
  have hb := S.2.1
  have hts := S.2.2.2.2
  have hl : lv_has ls 2 [(0, .ref q_t), (1, .int p1)] := hl
  have hinX6 : ∀ w ∈ u_ws RX6 TX6 9, w ∈ wsX6_at := by decide +kernel
  have k10 : Cond.fieldLink RX6 10 "BallBoxes" "theRow" "LBallBoxes$Row;" ∈ wsX6_at := by decide +kernel
  unfold f_X6_at at hf
  refine lv_iload_n hx hb dX6_at_0 rfl (lv_at hl 1 rfl) ?_
  obtain ⟨r1, h2, hf⟩ := bd1_some hf
  refine cl_i (wr := [(q_t, .inr (6, [.ref q_t_theRow, .ref q_t_pairs, .ref q_t_latestStrings, .ref q_t_leapStrings, .ref q_t_theRing, .ref q_t_trial, .ref q_t_sheets, .int t_moves, .int t_latestFinding])), (q_t_theRow, .inr (3, [.ref q_t_theRow_boxes, .ref q_t_theRow_made])), (q_t_theRow_boxes, .inl (cI, 240, .inl t_theRow_boxes))]) (ws' := [(q_t, .inr (6, [.ref q_t_theRow, .ref q_t_pairs, .ref q_t_latestStrings, .ref q_t_leapStrings, .ref q_t_theRing, .ref q_t_trial, .ref q_t_sheets, .int t_moves, .int t_latestFinding])), (q_t_theRow, .inr (3, [.ref q_t_theRow_boxes, .ref q_t_theRow_made])), (q_t_theRow_boxes, .inl (cI, 240, .inl t_theRow_boxes))]) hA hw [] [0, 1, 2] [0, 1, 2] rfl rfl rfl (by decide) rfl rfl (va_runS (As := [.int p1]) (rest := []) S (c_X6_isBox l D cI cZ cJ cO _ N p1 r1 h2) (va_cwS 1 hts gX6_at_X6_isBox rfl rfl rfl (by decide +kernel) ⟨Nat.le_of_ble_eq_true rfl, Nat.le_of_ble_eq_true rfl⟩) (pre_S hK hN hw [] rfl rfl) rfl rfl hl.1 rfl (lv_room (Nat.le_of_ble_eq_true rfl)) dX6_at_1 ⟨Nat.zero_le _, Nat.zero_le _⟩) (fun H locs hw => ?_)
  refine lv_if_eq (tgt := 18) hx hb dX6_at_4 (by decide) (fun c3 => ?_) (fun c3 => ?_)
  · have hf := (if_pos c3).symm.trans hf
    refine lv_bipush (v := (-2 : Int32)) hx hb dX6_at_18 (by decide) ?_
    obtain rfl := Option.some.inj hf
    exact rt_i S hr hlk hw dX6_at_20
  · have hf := (if_neg c3).symm.trans hf
    refine lv_aload_n hx hb dX6_at_7 rfl (lv_at hl 0 rfl) ?_
    refine g_get (ci := 6) (C := RX6) (T := TX6) (N := 9) S hinX6 hK hw 0 0 k10 dX6_at_8 rfl rfl (by decide) rfl ?_
    refine lv_iload_n hx hb dX6_at_11 rfl (lv_at hl 1 rfl) ?_
    obtain ⟨r4, h5, hf⟩ := bd1_some hf
    refine cl_i (wr := [(q_t, .inr (6, [.ref q_t_theRow, .ref q_t_pairs, .ref q_t_latestStrings, .ref q_t_leapStrings, .ref q_t_theRing, .ref q_t_trial, .ref q_t_sheets, .int t_moves, .int t_latestFinding]))]) (ws' := [(q_t, .inr (6, [.ref q_t_theRow, .ref q_t_pairs, .ref q_t_latestStrings, .ref q_t_leapStrings, .ref q_t_theRing, .ref q_t_trial, .ref q_t_sheets, .int t_moves, .int t_latestFinding])), (q_t_theRow, .inr (3, [.ref q_t_theRow_boxes, .ref q_t_theRow_made])), (q_t_theRow_boxes, .inl (cI, 240, .inl t_theRow_boxes))]) hA hw [1, 2] [0] [0, 1, 2] rfl rfl rfl (by decide) rfl rfl (va_runV (As := [.int p1]) (rest := []) S (c_X3_ballAt l D cI cZ cJ cO _ q_t_theRow q_t_theRow_boxes q_t_theRow_made N p1 t_theRow_boxes r4 h5) (cwV 1 hts gX6_at_X3_ballAt rfl rfl rfl (by decide +kernel) ⟨Nat.le_of_ble_eq_true rfl, Nat.le_of_ble_eq_true rfl⟩) (pre_V hK hN hw [1, 2] rfl rfl (C := RX3) (T := TX3) (N := 2) (ci := 3) (q0 := 0) rfl rfl) rfl rfl hl.1 rfl (lv_room (Nat.le_of_ble_eq_true rfl)) dX6_at_12 ⟨Nat.zero_le _, Nat.zero_le _⟩) (fun H locs hw => ?_)
    refine lv_goto (tgt := 20) hx hb dX6_at_15 (by decide) ?_
    obtain rfl := Option.some.inj hf
    exact rt_i S hr hlk hw dX6_at_20

def f_X6_empty (N : Nat)  (t_theRow_boxes : (Nat → Int32)) : Option (Int32 × (Nat → Int32)) :=
  (bd1 (f_X3_balls N t_theRow_boxes) (fun r1 => (bd1 (f_X3_clear N t_theRow_boxes) (fun u3 => (some (r1, u3))))))

set_option maxHeartbeats 4000000 in
set_option maxRecDepth 100000 in
theorem c_X6_empty (l : Launch) (D : va_G) (cI cZ cJ cO : ClassId) (sz : Nat) (q_t q_t_theRow q_t_pairs q_t_latestStrings q_t_leapStrings q_t_theRing q_t_trial q_t_sheets q_t_theRow_boxes q_t_theRow_made : Nat) (N : Nat)  (t_moves : Int32) (t_latestFinding : Int32) (t_theRow_boxes : (Nat → Int32)) (r : Int32) (o_t_theRow_boxes : (Nat → Int32)) (hf : f_X6_empty N t_theRow_boxes = some (r, o_t_theRow_boxes)) : Met l yX6_empty wsX6_empty ({ frames := 1, cells := 0, slots := 0, locals := 22 }) (PreC D (TY cI cZ cJ cO) [.ref q_t] [(q_t, .inr (6, [.ref q_t_theRow, .ref q_t_pairs, .ref q_t_latestStrings, .ref q_t_leapStrings, .ref q_t_theRing, .ref q_t_trial, .ref q_t_sheets, .int t_moves, .int t_latestFinding])), (q_t_theRow, .inr (3, [.ref q_t_theRow_boxes, .ref q_t_theRow_made])), (q_t_theRow_boxes, .inl (cI, 240, .inl t_theRow_boxes))] sz) (QcI D [(q_t, .inr (6, [.ref q_t_theRow, .ref q_t_pairs, .ref q_t_latestStrings, .ref q_t_leapStrings, .ref q_t_theRing, .ref q_t_trial, .ref q_t_sheets, .int t_moves, .int t_latestFinding])), (q_t_theRow, .inr (3, [.ref q_t_theRow_boxes, .ref q_t_theRow_made])), (q_t_theRow_boxes, .inl (cI, 240, .inl o_t_theRow_boxes))] (va_A [(q_t, .inr (6, [.ref q_t_theRow, .ref q_t_pairs, .ref q_t_latestStrings, .ref q_t_leapStrings, .ref q_t_theRing, .ref q_t_trial, .ref q_t_sheets, .int t_moves, .int t_latestFinding])), (q_t_theRow, .inr (3, [.ref q_t_theRow_boxes, .ref q_t_theRow_made])), (q_t_theRow_boxes, .inl (cI, 240, .inl t_theRow_boxes))] sz) r) 0 0 (va_A [(q_t, .inr (6, [.ref q_t_theRow, .ref q_t_pairs, .ref q_t_latestStrings, .ref q_t_leapStrings, .ref q_t_theRing, .ref q_t_trial, .ref q_t_sheets, .int t_moves, .int t_latestFinding])), (q_t_theRow, .inr (3, [.ref q_t_theRow_boxes, .ref q_t_theRow_made])), (q_t_theRow_boxes, .inl (cI, 240, .inl t_theRow_boxes))] sz) := by
  refine ctr (cc := cX6_empty) (maxL := 2) (ret := (some .int)) (by decide) rfl (Nat.le_of_ble_eq_true rfl) ?_
  intro p e s m below meth c S hr hlk hnm hK hN hsz hA hw ls hl
  generalize va_A [(q_t, .inr (6, [.ref q_t_theRow, .ref q_t_pairs, .ref q_t_latestStrings, .ref q_t_leapStrings, .ref q_t_theRing, .ref q_t_trial, .ref q_t_sheets, .int t_moves, .int t_latestFinding])), (q_t_theRow, .inr (3, [.ref q_t_theRow_boxes, .ref q_t_theRow_made])), (q_t_theRow_boxes, .inl (cI, 240, .inl t_theRow_boxes))] sz = A at hA hw ⊢
  have S : CallFix p m c cX6_empty 2 s ([.ref q_t] : List Value).toArray wsX6_empty RX6 := S
  have hx := S.1
  have hb := S.2.1
  have hts := S.2.2.2.2
  have hl : lv_has ls 2 [(0, .ref q_t)] := hl
  have hinX6 : ∀ w ∈ u_ws RX6 TX6 9, w ∈ wsX6_empty := by decide +kernel
  have k10 : Cond.fieldLink RX6 10 "BallBoxes" "theRow" "LBallBoxes$Row;" ∈ wsX6_empty := by decide +kernel
  unfold f_X6_empty at hf
  refine lv_aload_n hx hb dX6_empty_0 rfl (lv_at hl 0 rfl) ?_
  refine g_get (ci := 6) (C := RX6) (T := TX6) (N := 9) S hinX6 hK hw 0 0 k10 dX6_empty_1 rfl rfl (by decide) rfl ?_
  obtain ⟨r1, h2, hf⟩ := bd1_some hf
  refine cl_i (wr := [(q_t, .inr (6, [.ref q_t_theRow, .ref q_t_pairs, .ref q_t_latestStrings, .ref q_t_leapStrings, .ref q_t_theRing, .ref q_t_trial, .ref q_t_sheets, .int t_moves, .int t_latestFinding]))]) (ws' := [(q_t, .inr (6, [.ref q_t_theRow, .ref q_t_pairs, .ref q_t_latestStrings, .ref q_t_leapStrings, .ref q_t_theRing, .ref q_t_trial, .ref q_t_sheets, .int t_moves, .int t_latestFinding])), (q_t_theRow, .inr (3, [.ref q_t_theRow_boxes, .ref q_t_theRow_made])), (q_t_theRow_boxes, .inl (cI, 240, .inl t_theRow_boxes))]) hA hw [1, 2] [0] [0, 1, 2] rfl rfl rfl (by decide) rfl rfl (va_runV (As := []) (rest := []) S (c_X3_balls l D cI cZ cJ cO _ q_t_theRow q_t_theRow_boxes q_t_theRow_made N t_theRow_boxes r1 h2) (cwV 0 hts gX6_empty_X3_balls rfl rfl rfl (by decide +kernel) ⟨Nat.le_of_ble_eq_true rfl, Nat.le_of_ble_eq_true rfl⟩) (pre_V hK hN hw [1, 2] rfl rfl (C := RX3) (T := TX3) (N := 2) (ci := 3) (q0 := 0) rfl rfl) rfl rfl hl.1 rfl (lv_room (Nat.le_of_ble_eq_true rfl)) dX6_empty_4 ⟨Nat.zero_le _, Nat.zero_le _⟩) (fun H locs hw => ?_)
  refine lv_istore_n (lv' := [(1, .int r1), (0, .ref q_t)]) hx hb dX6_empty_7 rfl hl (by decide) rfl (fun ls hl => ?_)
  refine lv_aload_n hx hb dX6_empty_8 rfl (lv_at hl 1 rfl) ?_
  refine g_get (ci := 6) (C := RX6) (T := TX6) (N := 9) S hinX6 hK hw 0 0 k10 dX6_empty_9 rfl rfl (by decide) rfl ?_
  obtain ⟨u3, h4, hf⟩ := bd1_some hf
  refine cl_v (wr := [(q_t, .inr (6, [.ref q_t_theRow, .ref q_t_pairs, .ref q_t_latestStrings, .ref q_t_leapStrings, .ref q_t_theRing, .ref q_t_trial, .ref q_t_sheets, .int t_moves, .int t_latestFinding]))]) (ws' := [(q_t, .inr (6, [.ref q_t_theRow, .ref q_t_pairs, .ref q_t_latestStrings, .ref q_t_leapStrings, .ref q_t_theRing, .ref q_t_trial, .ref q_t_sheets, .int t_moves, .int t_latestFinding])), (q_t_theRow, .inr (3, [.ref q_t_theRow_boxes, .ref q_t_theRow_made])), (q_t_theRow_boxes, .inl (cI, 240, .inl u3))]) hA hw [1, 2] [0] [0, 1, 2] rfl rfl rfl (by decide) rfl rfl (va_runV (As := []) (rest := []) S (c_X3_clear l D cI cZ cJ cO _ q_t_theRow q_t_theRow_boxes q_t_theRow_made N t_theRow_boxes u3 h4) (cwV 0 hts gX6_empty_X3_clear rfl rfl rfl (by decide +kernel) ⟨Nat.le_of_ble_eq_true rfl, Nat.le_of_ble_eq_true rfl⟩) (pre_V hK hN hw [1, 2] rfl rfl (C := RX3) (T := TX3) (N := 2) (ci := 3) (q0 := 0) rfl rfl) rfl rfl hl.1 rfl (lv_room (Nat.le_of_ble_eq_true rfl)) dX6_empty_12 ⟨Nat.zero_le _, Nat.zero_le _⟩) (fun H locs hw => ?_)
  refine lv_iload_n hx hb dX6_empty_15 rfl (lv_at hl 0 rfl) ?_
  obtain ⟨rfl, rfl⟩ := pr2 (Option.some.inj hf)
  exact rt_i S hr hlk hw dX6_empty_16

def f_X6_carry (N : Nat) (p1 : Int32) (p2 : Int32) (t_moves : Int32) (t_theRow_boxes : (Nat → Int32)) (t_theRow_made : (Nat → Int32)) : Option (Int32 × Int32 × (Nat → Int32) × (Nat → Int32)) :=
  (bd2 (f_X3_makeByCarrier N p1 p2 t_theRow_boxes t_theRow_made) (fun r1 u2 => (if r1 = (0 : Int32) then (bd2 (f_X3_becomeMade N t_theRow_boxes u2) (fun r5 u6 => (some (r5, (t_moves + (1 : Int32)), u6, u2)))) else (some ((-4 : Int32), t_moves, t_theRow_boxes, u2)))))

set_option maxHeartbeats 4000000 in
set_option maxRecDepth 100000 in
theorem c_X6_carry (l : Launch) (D : va_G) (cI cZ cJ cO : ClassId) (sz : Nat) (q_t q_t_theRow q_t_pairs q_t_latestStrings q_t_leapStrings q_t_theRing q_t_trial q_t_sheets q_t_theRow_boxes q_t_theRow_made : Nat) (N : Nat) (p1 : Int32) (p2 : Int32) (t_moves : Int32) (t_latestFinding : Int32) (t_theRow_boxes : (Nat → Int32)) (t_theRow_made : (Nat → Int32)) (r : Int32) (o_t_moves : Int32) (o_t_theRow_boxes : (Nat → Int32)) (o_t_theRow_made : (Nat → Int32)) (hf : f_X6_carry N p1 p2 t_moves t_theRow_boxes t_theRow_made = some (r, o_t_moves, o_t_theRow_boxes, o_t_theRow_made)) : Met l yX6_carry wsX6_carry ({ frames := 3, cells := 0, slots := 0, locals := 69 }) (PreC D (TY cI cZ cJ cO) [.ref q_t, .int p1, .int p2] [(q_t, .inr (6, [.ref q_t_theRow, .ref q_t_pairs, .ref q_t_latestStrings, .ref q_t_leapStrings, .ref q_t_theRing, .ref q_t_trial, .ref q_t_sheets, .int t_moves, .int t_latestFinding])), (q_t_theRow, .inr (3, [.ref q_t_theRow_boxes, .ref q_t_theRow_made])), (q_t_theRow_boxes, .inl (cI, 240, .inl t_theRow_boxes)), (q_t_theRow_made, .inl (cI, 240, .inl t_theRow_made))] sz) (QcI D [(q_t, .inr (6, [.ref q_t_theRow, .ref q_t_pairs, .ref q_t_latestStrings, .ref q_t_leapStrings, .ref q_t_theRing, .ref q_t_trial, .ref q_t_sheets, .int o_t_moves, .int t_latestFinding])), (q_t_theRow, .inr (3, [.ref q_t_theRow_boxes, .ref q_t_theRow_made])), (q_t_theRow_boxes, .inl (cI, 240, .inl o_t_theRow_boxes)), (q_t_theRow_made, .inl (cI, 240, .inl o_t_theRow_made))] (va_A [(q_t, .inr (6, [.ref q_t_theRow, .ref q_t_pairs, .ref q_t_latestStrings, .ref q_t_leapStrings, .ref q_t_theRing, .ref q_t_trial, .ref q_t_sheets, .int t_moves, .int t_latestFinding])), (q_t_theRow, .inr (3, [.ref q_t_theRow_boxes, .ref q_t_theRow_made])), (q_t_theRow_boxes, .inl (cI, 240, .inl t_theRow_boxes)), (q_t_theRow_made, .inl (cI, 240, .inl t_theRow_made))] sz) r) 0 0 (va_A [(q_t, .inr (6, [.ref q_t_theRow, .ref q_t_pairs, .ref q_t_latestStrings, .ref q_t_leapStrings, .ref q_t_theRing, .ref q_t_trial, .ref q_t_sheets, .int t_moves, .int t_latestFinding])), (q_t_theRow, .inr (3, [.ref q_t_theRow_boxes, .ref q_t_theRow_made])), (q_t_theRow_boxes, .inl (cI, 240, .inl t_theRow_boxes)), (q_t_theRow_made, .inl (cI, 240, .inl t_theRow_made))] sz) := by
  refine ctr (cc := cX6_carry) (maxL := 3) (ret := (some .int)) (by decide) rfl (Nat.le_of_ble_eq_true rfl) ?_
  intro p e s m below meth c S hr hlk hnm hK hN hsz hA hw ls hl
  generalize va_A [(q_t, .inr (6, [.ref q_t_theRow, .ref q_t_pairs, .ref q_t_latestStrings, .ref q_t_leapStrings, .ref q_t_theRing, .ref q_t_trial, .ref q_t_sheets, .int t_moves, .int t_latestFinding])), (q_t_theRow, .inr (3, [.ref q_t_theRow_boxes, .ref q_t_theRow_made])), (q_t_theRow_boxes, .inl (cI, 240, .inl t_theRow_boxes)), (q_t_theRow_made, .inl (cI, 240, .inl t_theRow_made))] sz = A at hA hw ⊢
  have S : CallFix p m c cX6_carry 3 s ([.ref q_t, .int p1, .int p2] : List Value).toArray wsX6_carry RX6 := S
  have hx := S.1
  have hb := S.2.1
  have hts := S.2.2.2.2
  have hl : lv_has ls 3 [(0, .ref q_t), (1, .int p1), (2, .int p2)] := hl
  have hinX6 : ∀ w ∈ u_ws RX6 TX6 9, w ∈ wsX6_carry := by decide +kernel
  have k10 : Cond.fieldLink RX6 10 "BallBoxes" "theRow" "LBallBoxes$Row;" ∈ wsX6_carry := by decide +kernel
  have k134 : Cond.fieldLink RX6 134 "BallBoxes" "moves" "I" ∈ wsX6_carry := by decide +kernel
  unfold f_X6_carry at hf
  refine lv_aload_n hx hb dX6_carry_0 rfl (lv_at hl 0 rfl) ?_
  refine g_get (ci := 6) (C := RX6) (T := TX6) (N := 9) S hinX6 hK hw 0 0 k10 dX6_carry_1 rfl rfl (by decide) rfl ?_
  refine lv_iload_n hx hb dX6_carry_4 rfl (lv_at hl 1 rfl) ?_
  refine lv_iload_n hx hb dX6_carry_5 rfl (lv_at hl 2 rfl) ?_
  obtain ⟨r1, u2, h3, hf⟩ := bd2_some hf
  refine cl_i (wr := [(q_t, .inr (6, [.ref q_t_theRow, .ref q_t_pairs, .ref q_t_latestStrings, .ref q_t_leapStrings, .ref q_t_theRing, .ref q_t_trial, .ref q_t_sheets, .int t_moves, .int t_latestFinding]))]) (ws' := [(q_t, .inr (6, [.ref q_t_theRow, .ref q_t_pairs, .ref q_t_latestStrings, .ref q_t_leapStrings, .ref q_t_theRing, .ref q_t_trial, .ref q_t_sheets, .int t_moves, .int t_latestFinding])), (q_t_theRow, .inr (3, [.ref q_t_theRow_boxes, .ref q_t_theRow_made])), (q_t_theRow_boxes, .inl (cI, 240, .inl t_theRow_boxes)), (q_t_theRow_made, .inl (cI, 240, .inl u2))]) hA hw [1, 2, 3] [0] [0, 1, 2, 3] rfl rfl rfl (by decide) rfl rfl (va_runV (As := [.int p1, .int p2]) (rest := []) S (c_X3_makeByCarrier l D cI cZ cJ cO _ q_t_theRow q_t_theRow_boxes q_t_theRow_made N p1 p2 t_theRow_boxes t_theRow_made r1 u2 h3) (cwV 2 hts gX6_carry_X3_makeByCarrier rfl rfl rfl (by decide +kernel) ⟨Nat.le_of_ble_eq_true rfl, Nat.le_of_ble_eq_true rfl⟩) (pre_V hK hN hw [1, 2, 3] rfl rfl (C := RX3) (T := TX3) (N := 2) (ci := 3) (q0 := 0) rfl rfl) rfl rfl hl.1 rfl (lv_room (Nat.le_of_ble_eq_true rfl)) dX6_carry_6 ⟨Nat.zero_le _, Nat.zero_le _⟩) (fun H locs hw => ?_)
  refine lv_if_eq (tgt := 15) hx hb dX6_carry_9 (by decide) (fun c4 => ?_) (fun c4 => ?_)
  · have hf := (if_pos c4).symm.trans hf
    refine lv_aload_n hx hb dX6_carry_15 rfl (lv_at hl 0 rfl) ?_
    refine lv_dup hx hb dX6_carry_16 rfl ?_
    refine g_get (ci := 6) (C := RX6) (T := TX6) (N := 9) S hinX6 hK hw 0 7 k134 dX6_carry_17 rfl rfl (by decide) rfl ?_
    refine lv_iconst (v := (1 : Int32)) hx hb dX6_carry_20 (by decide) ?_
    refine lv_iadd hx hb dX6_carry_21 ?_
    refine g_put (ci := 6) (C := RX6) (T := TX6) (N := 9) (ws' := [(q_t, .inr (6, [.ref q_t_theRow, .ref q_t_pairs, .ref q_t_latestStrings, .ref q_t_leapStrings, .ref q_t_theRing, .ref q_t_trial, .ref q_t_sheets, .int (t_moves + (1 : Int32)), .int t_latestFinding])), (q_t_theRow, .inr (3, [.ref q_t_theRow_boxes, .ref q_t_theRow_made])), (q_t_theRow_boxes, .inl (cI, 240, .inl t_theRow_boxes)), (q_t_theRow_made, .inl (cI, 240, .inl u2))]) S hinX6 tyX6 tyX6_ok nmX6 hK hw 0 7 k134 dX6_carry_22 rfl rfl (by decide) rfl rfl rfl (Nat.le_of_ble_eq_true rfl) rfl (fun H locs hw => ?_)
    refine lv_aload_n hx hb dX6_carry_25 rfl (lv_at hl 0 rfl) ?_
    refine g_get (ci := 6) (C := RX6) (T := TX6) (N := 9) S hinX6 hK hw 0 0 k10 dX6_carry_26 rfl rfl (by decide) rfl ?_
    obtain ⟨r5, u6, h7, hf⟩ := bd2_some hf
    refine cl_i (wr := [(q_t, .inr (6, [.ref q_t_theRow, .ref q_t_pairs, .ref q_t_latestStrings, .ref q_t_leapStrings, .ref q_t_theRing, .ref q_t_trial, .ref q_t_sheets, .int (t_moves + (1 : Int32)), .int t_latestFinding]))]) (ws' := [(q_t, .inr (6, [.ref q_t_theRow, .ref q_t_pairs, .ref q_t_latestStrings, .ref q_t_leapStrings, .ref q_t_theRing, .ref q_t_trial, .ref q_t_sheets, .int (t_moves + (1 : Int32)), .int t_latestFinding])), (q_t_theRow, .inr (3, [.ref q_t_theRow_boxes, .ref q_t_theRow_made])), (q_t_theRow_boxes, .inl (cI, 240, .inl u6)), (q_t_theRow_made, .inl (cI, 240, .inl u2))]) hA hw [1, 2, 3] [0] [0, 1, 2, 3] rfl rfl rfl (by decide) rfl rfl (va_runV (As := []) (rest := []) S (c_X3_becomeMade l D cI cZ cJ cO _ q_t_theRow q_t_theRow_boxes q_t_theRow_made N t_theRow_boxes u2 r5 u6 h7) (cwV 0 hts gX6_carry_X3_becomeMade rfl rfl rfl (by decide +kernel) ⟨Nat.le_of_ble_eq_true rfl, Nat.le_of_ble_eq_true rfl⟩) (pre_V hK hN hw [1, 2, 3] rfl rfl (C := RX3) (T := TX3) (N := 2) (ci := 3) (q0 := 0) rfl rfl) rfl rfl hl.1 rfl (lv_room (Nat.le_of_ble_eq_true rfl)) dX6_carry_29 ⟨Nat.zero_le _, Nat.zero_le _⟩) (fun H locs hw => ?_)
    obtain ⟨rfl, rfl, rfl, rfl⟩ := pr4 (Option.some.inj hf)
    exact rt_i S hr hlk hw dX6_carry_32
  · have hf := (if_neg c4).symm.trans hf
    refine lv_bipush (v := (-4 : Int32)) hx hb dX6_carry_12 (by decide) ?_
    obtain ⟨rfl, rfl, rfl, rfl⟩ := pr4 (Option.some.inj hf)
    exact rt_i S hr hlk hw dX6_carry_14

def f_X6_isRoom (_ : Nat) (p0 : Int32)  : Option (Int32) :=
  (if p0 < (1 : Int32) then (some (0 : Int32)) else (if (50 : Int32) < p0 then (some (0 : Int32)) else (some (1 : Int32))))

set_option maxHeartbeats 4000000 in
set_option maxRecDepth 100000 in
theorem c_X6_isRoom (l : Launch) (D : va_G) (cI cZ cJ cO : ClassId) (sz : Nat) (N : Nat) (p0 : Int32)  (r : Int32) (hf : f_X6_isRoom N p0 = some r) : Met l yX6_isRoom wsX6_isRoom ({ frames := 0, cells := 0, slots := 0, locals := 0 }) (PreC D (TY cI cZ cJ cO) [.int p0] [] sz) (QcI D [] (va_A [] sz) r) 0 0 (va_A [] sz) := by
  refine ctr (cc := cX6_isRoom) (maxL := 1) (ret := (some .boolean)) (by decide) rfl (Nat.le_of_ble_eq_true rfl) ?_
  intro p e s m below meth c S hr hlk hnm hK hN hsz hA hw ls hl
  generalize va_A [] sz = A at hA hw ⊢
  have S : CallFix p m c cX6_isRoom 1 s ([.int p0] : List Value).toArray wsX6_isRoom RX6 := S
  have hx := S.1
  have hb := S.2.1
  have hts := S.2.2.2.2
  have hl : lv_has ls 1 [(0, .int p0)] := hl
  unfold f_X6_isRoom at hf
  refine lv_iload_n hx hb dX6_isRoom_0 rfl (lv_at hl 0 rfl) ?_
  refine lv_iconst (v := (1 : Int32)) hx hb dX6_isRoom_1 (by decide) ?_
  refine lv_icmp_lt (tgt := 15) hx hb dX6_isRoom_2 (by decide) (fun c1 => ?_) (fun c1 => ?_)
  · have hf := (if_pos c1).symm.trans hf
    refine lv_iconst (v := (0 : Int32)) hx hb dX6_isRoom_15 (by decide) ?_
    obtain rfl := Option.some.inj hf
    exact rt_z S hr hlk hw dX6_isRoom_16 rfl
  · have hf := (if_neg c1).symm.trans hf
    refine lv_iload_n hx hb dX6_isRoom_5 rfl (lv_at hl 0 rfl) ?_
    refine lv_bipush (v := (50 : Int32)) hx hb dX6_isRoom_6 (by decide) ?_
    refine lv_icmp_gt (tgt := 15) hx hb dX6_isRoom_8 (by decide) (fun c2 => ?_) (fun c2 => ?_)
    · have hf := (if_pos c2).symm.trans hf
      refine lv_iconst (v := (0 : Int32)) hx hb dX6_isRoom_15 (by decide) ?_
      obtain rfl := Option.some.inj hf
      exact rt_z S hr hlk hw dX6_isRoom_16 rfl
    · have hf := (if_neg c2).symm.trans hf
      refine lv_iconst (v := (1 : Int32)) hx hb dX6_isRoom_11 (by decide) ?_
      refine lv_goto (tgt := 16) hx hb dX6_isRoom_12 (by decide) ?_
      obtain rfl := Option.some.inj hf
      exact rt_z S hr hlk hw dX6_isRoom_16 rfl

def f_X6_step (N : Nat) (p1 : Int32) (t_moves : Int32) (t_theRow_boxes : (Nat → Int32)) (t_theRow_made : (Nat → Int32)) : Option (Int32 × Int32 × (Nat → Int32) × (Nat → Int32)) :=
  (bd1 (f_X6_isRoom N p1) (fun r1 => (if r1 = (0 : Int32) then (some ((-2 : Int32), t_moves, t_theRow_boxes, t_theRow_made)) else (bd4 (f_X6_carry N p1 (1 : Int32) t_moves t_theRow_boxes t_theRow_made) (fun r4 u5 u6 u7 => (some (r4, u5, u6, u7)))))))

set_option maxHeartbeats 4000000 in
set_option maxRecDepth 100000 in
theorem c_X6_step (l : Launch) (D : va_G) (cI cZ cJ cO : ClassId) (sz : Nat) (q_t q_t_theRow q_t_pairs q_t_latestStrings q_t_leapStrings q_t_theRing q_t_trial q_t_sheets q_t_theRow_boxes q_t_theRow_made : Nat) (N : Nat) (p1 : Int32) (t_moves : Int32) (t_latestFinding : Int32) (t_theRow_boxes : (Nat → Int32)) (t_theRow_made : (Nat → Int32)) (r : Int32) (o_t_moves : Int32) (o_t_theRow_boxes : (Nat → Int32)) (o_t_theRow_made : (Nat → Int32)) (hf : f_X6_step N p1 t_moves t_theRow_boxes t_theRow_made = some (r, o_t_moves, o_t_theRow_boxes, o_t_theRow_made)) : Met l yX6_step wsX6_step ({ frames := 4, cells := 0, slots := 0, locals := 91 }) (PreC D (TY cI cZ cJ cO) [.ref q_t, .int p1] [(q_t, .inr (6, [.ref q_t_theRow, .ref q_t_pairs, .ref q_t_latestStrings, .ref q_t_leapStrings, .ref q_t_theRing, .ref q_t_trial, .ref q_t_sheets, .int t_moves, .int t_latestFinding])), (q_t_theRow, .inr (3, [.ref q_t_theRow_boxes, .ref q_t_theRow_made])), (q_t_theRow_boxes, .inl (cI, 240, .inl t_theRow_boxes)), (q_t_theRow_made, .inl (cI, 240, .inl t_theRow_made))] sz) (QcI D [(q_t, .inr (6, [.ref q_t_theRow, .ref q_t_pairs, .ref q_t_latestStrings, .ref q_t_leapStrings, .ref q_t_theRing, .ref q_t_trial, .ref q_t_sheets, .int o_t_moves, .int t_latestFinding])), (q_t_theRow, .inr (3, [.ref q_t_theRow_boxes, .ref q_t_theRow_made])), (q_t_theRow_boxes, .inl (cI, 240, .inl o_t_theRow_boxes)), (q_t_theRow_made, .inl (cI, 240, .inl o_t_theRow_made))] (va_A [(q_t, .inr (6, [.ref q_t_theRow, .ref q_t_pairs, .ref q_t_latestStrings, .ref q_t_leapStrings, .ref q_t_theRing, .ref q_t_trial, .ref q_t_sheets, .int t_moves, .int t_latestFinding])), (q_t_theRow, .inr (3, [.ref q_t_theRow_boxes, .ref q_t_theRow_made])), (q_t_theRow_boxes, .inl (cI, 240, .inl t_theRow_boxes)), (q_t_theRow_made, .inl (cI, 240, .inl t_theRow_made))] sz) r) 0 0 (va_A [(q_t, .inr (6, [.ref q_t_theRow, .ref q_t_pairs, .ref q_t_latestStrings, .ref q_t_leapStrings, .ref q_t_theRing, .ref q_t_trial, .ref q_t_sheets, .int t_moves, .int t_latestFinding])), (q_t_theRow, .inr (3, [.ref q_t_theRow_boxes, .ref q_t_theRow_made])), (q_t_theRow_boxes, .inl (cI, 240, .inl t_theRow_boxes)), (q_t_theRow_made, .inl (cI, 240, .inl t_theRow_made))] sz) := by
  refine ctr (cc := cX6_step) (maxL := 2) (ret := (some .int)) (by decide) rfl (Nat.le_of_ble_eq_true rfl) ?_
  intro p e s m below meth c S hr hlk hnm hK hN hsz hA hw ls hl
  generalize va_A [(q_t, .inr (6, [.ref q_t_theRow, .ref q_t_pairs, .ref q_t_latestStrings, .ref q_t_leapStrings, .ref q_t_theRing, .ref q_t_trial, .ref q_t_sheets, .int t_moves, .int t_latestFinding])), (q_t_theRow, .inr (3, [.ref q_t_theRow_boxes, .ref q_t_theRow_made])), (q_t_theRow_boxes, .inl (cI, 240, .inl t_theRow_boxes)), (q_t_theRow_made, .inl (cI, 240, .inl t_theRow_made))] sz = A at hA hw ⊢
  have S : CallFix p m c cX6_step 2 s ([.ref q_t, .int p1] : List Value).toArray wsX6_step RX6 := S
  have hx := S.1
  have hb := S.2.1
  have hts := S.2.2.2.2
  have hl : lv_has ls 2 [(0, .ref q_t), (1, .int p1)] := hl
  unfold f_X6_step at hf
  refine lv_iload_n hx hb dX6_step_0 rfl (lv_at hl 1 rfl) ?_
  obtain ⟨r1, h2, hf⟩ := bd1_some hf
  refine cl_i (wr := [(q_t, .inr (6, [.ref q_t_theRow, .ref q_t_pairs, .ref q_t_latestStrings, .ref q_t_leapStrings, .ref q_t_theRing, .ref q_t_trial, .ref q_t_sheets, .int t_moves, .int t_latestFinding])), (q_t_theRow, .inr (3, [.ref q_t_theRow_boxes, .ref q_t_theRow_made])), (q_t_theRow_boxes, .inl (cI, 240, .inl t_theRow_boxes)), (q_t_theRow_made, .inl (cI, 240, .inl t_theRow_made))]) (ws' := [(q_t, .inr (6, [.ref q_t_theRow, .ref q_t_pairs, .ref q_t_latestStrings, .ref q_t_leapStrings, .ref q_t_theRing, .ref q_t_trial, .ref q_t_sheets, .int t_moves, .int t_latestFinding])), (q_t_theRow, .inr (3, [.ref q_t_theRow_boxes, .ref q_t_theRow_made])), (q_t_theRow_boxes, .inl (cI, 240, .inl t_theRow_boxes)), (q_t_theRow_made, .inl (cI, 240, .inl t_theRow_made))]) hA hw [] [0, 1, 2, 3] [0, 1, 2, 3] rfl rfl rfl (by decide) rfl rfl (va_runS (As := [.int p1]) (rest := []) S (c_X6_isRoom l D cI cZ cJ cO _ N p1 r1 h2) (va_cwS 1 hts gX6_step_X6_isRoom rfl rfl rfl (by decide +kernel) ⟨Nat.le_of_ble_eq_true rfl, Nat.le_of_ble_eq_true rfl⟩) (pre_S hK hN hw [] rfl rfl) rfl rfl hl.1 rfl (lv_room (Nat.le_of_ble_eq_true rfl)) dX6_step_1 ⟨Nat.zero_le _, Nat.zero_le _⟩) (fun H locs hw => ?_)
  refine lv_if_eq (tgt := 16) hx hb dX6_step_4 (by decide) (fun c3 => ?_) (fun c3 => ?_)
  · have hf := (if_pos c3).symm.trans hf
    refine lv_bipush (v := (-2 : Int32)) hx hb dX6_step_16 (by decide) ?_
    obtain ⟨rfl, rfl, rfl, rfl⟩ := pr4 (Option.some.inj hf)
    exact rt_i S hr hlk hw dX6_step_18
  · have hf := (if_neg c3).symm.trans hf
    refine lv_aload_n hx hb dX6_step_7 rfl (lv_at hl 0 rfl) ?_
    refine lv_iload_n hx hb dX6_step_8 rfl (lv_at hl 1 rfl) ?_
    refine lv_iconst (v := (1 : Int32)) hx hb dX6_step_9 (by decide) ?_
    obtain ⟨r4, u5, u6, u7, h8, hf⟩ := bd4_some hf
    refine cl_i (wr := []) (ws' := [(q_t, .inr (6, [.ref q_t_theRow, .ref q_t_pairs, .ref q_t_latestStrings, .ref q_t_leapStrings, .ref q_t_theRing, .ref q_t_trial, .ref q_t_sheets, .int u5, .int t_latestFinding])), (q_t_theRow, .inr (3, [.ref q_t_theRow_boxes, .ref q_t_theRow_made])), (q_t_theRow_boxes, .inl (cI, 240, .inl u6)), (q_t_theRow_made, .inl (cI, 240, .inl u7))]) hA hw [0, 1, 2, 3] [] [0, 1, 2, 3] rfl rfl rfl (by decide) rfl rfl (va_runV (As := [.int p1, .int (1 : Int32)]) (rest := []) S (c_X6_carry l D cI cZ cJ cO _ q_t q_t_theRow q_t_pairs q_t_latestStrings q_t_leapStrings q_t_theRing q_t_trial q_t_sheets q_t_theRow_boxes q_t_theRow_made N p1 (1 : Int32) t_moves t_latestFinding t_theRow_boxes t_theRow_made r4 u5 u6 u7 h8) (cwV 2 hts gX6_step_X6_carry rfl rfl rfl (by decide +kernel) ⟨Nat.le_of_ble_eq_true rfl, Nat.le_of_ble_eq_true rfl⟩) (pre_V hK hN hw [0, 1, 2, 3] rfl rfl (C := RX6) (T := TX6) (N := 9) (ci := 6) (q0 := 0) rfl rfl) rfl rfl hl.1 rfl (lv_room (Nat.le_of_ble_eq_true rfl)) dX6_step_10 ⟨Nat.zero_le _, Nat.zero_le _⟩) (fun H locs hw => ?_)
    refine lv_goto (tgt := 18) hx hb dX6_step_13 (by decide) ?_
    obtain ⟨rfl, rfl, rfl, rfl⟩ := pr4 (Option.some.inj hf)
    exact rt_i S hr hlk hw dX6_step_18

def f_X6_back (N : Nat) (p1 : Int32) (t_moves : Int32) (t_theRow_boxes : (Nat → Int32)) (t_theRow_made : (Nat → Int32)) : Option (Int32 × Int32 × (Nat → Int32) × (Nat → Int32)) :=
  (bd1 (f_X6_isRoom N p1) (fun r1 => (if r1 = (0 : Int32) then (some ((-2 : Int32), t_moves, t_theRow_boxes, t_theRow_made)) else (bd4 (f_X6_carry N p1 (0 : Int32) t_moves t_theRow_boxes t_theRow_made) (fun r4 u5 u6 u7 => (some (r4, u5, u6, u7)))))))

set_option maxHeartbeats 4000000 in
set_option maxRecDepth 100000 in
theorem c_X6_back (l : Launch) (D : va_G) (cI cZ cJ cO : ClassId) (sz : Nat) (q_t q_t_theRow q_t_pairs q_t_latestStrings q_t_leapStrings q_t_theRing q_t_trial q_t_sheets q_t_theRow_boxes q_t_theRow_made : Nat) (N : Nat) (p1 : Int32) (t_moves : Int32) (t_latestFinding : Int32) (t_theRow_boxes : (Nat → Int32)) (t_theRow_made : (Nat → Int32)) (r : Int32) (o_t_moves : Int32) (o_t_theRow_boxes : (Nat → Int32)) (o_t_theRow_made : (Nat → Int32)) (hf : f_X6_back N p1 t_moves t_theRow_boxes t_theRow_made = some (r, o_t_moves, o_t_theRow_boxes, o_t_theRow_made)) : Met l yX6_back wsX6_back ({ frames := 4, cells := 0, slots := 0, locals := 91 }) (PreC D (TY cI cZ cJ cO) [.ref q_t, .int p1] [(q_t, .inr (6, [.ref q_t_theRow, .ref q_t_pairs, .ref q_t_latestStrings, .ref q_t_leapStrings, .ref q_t_theRing, .ref q_t_trial, .ref q_t_sheets, .int t_moves, .int t_latestFinding])), (q_t_theRow, .inr (3, [.ref q_t_theRow_boxes, .ref q_t_theRow_made])), (q_t_theRow_boxes, .inl (cI, 240, .inl t_theRow_boxes)), (q_t_theRow_made, .inl (cI, 240, .inl t_theRow_made))] sz) (QcI D [(q_t, .inr (6, [.ref q_t_theRow, .ref q_t_pairs, .ref q_t_latestStrings, .ref q_t_leapStrings, .ref q_t_theRing, .ref q_t_trial, .ref q_t_sheets, .int o_t_moves, .int t_latestFinding])), (q_t_theRow, .inr (3, [.ref q_t_theRow_boxes, .ref q_t_theRow_made])), (q_t_theRow_boxes, .inl (cI, 240, .inl o_t_theRow_boxes)), (q_t_theRow_made, .inl (cI, 240, .inl o_t_theRow_made))] (va_A [(q_t, .inr (6, [.ref q_t_theRow, .ref q_t_pairs, .ref q_t_latestStrings, .ref q_t_leapStrings, .ref q_t_theRing, .ref q_t_trial, .ref q_t_sheets, .int t_moves, .int t_latestFinding])), (q_t_theRow, .inr (3, [.ref q_t_theRow_boxes, .ref q_t_theRow_made])), (q_t_theRow_boxes, .inl (cI, 240, .inl t_theRow_boxes)), (q_t_theRow_made, .inl (cI, 240, .inl t_theRow_made))] sz) r) 0 0 (va_A [(q_t, .inr (6, [.ref q_t_theRow, .ref q_t_pairs, .ref q_t_latestStrings, .ref q_t_leapStrings, .ref q_t_theRing, .ref q_t_trial, .ref q_t_sheets, .int t_moves, .int t_latestFinding])), (q_t_theRow, .inr (3, [.ref q_t_theRow_boxes, .ref q_t_theRow_made])), (q_t_theRow_boxes, .inl (cI, 240, .inl t_theRow_boxes)), (q_t_theRow_made, .inl (cI, 240, .inl t_theRow_made))] sz) := by
  refine ctr (cc := cX6_back) (maxL := 2) (ret := (some .int)) (by decide) rfl (Nat.le_of_ble_eq_true rfl) ?_
  intro p e s m below meth c S hr hlk hnm hK hN hsz hA hw ls hl
  generalize va_A [(q_t, .inr (6, [.ref q_t_theRow, .ref q_t_pairs, .ref q_t_latestStrings, .ref q_t_leapStrings, .ref q_t_theRing, .ref q_t_trial, .ref q_t_sheets, .int t_moves, .int t_latestFinding])), (q_t_theRow, .inr (3, [.ref q_t_theRow_boxes, .ref q_t_theRow_made])), (q_t_theRow_boxes, .inl (cI, 240, .inl t_theRow_boxes)), (q_t_theRow_made, .inl (cI, 240, .inl t_theRow_made))] sz = A at hA hw ⊢
  have S : CallFix p m c cX6_back 2 s ([.ref q_t, .int p1] : List Value).toArray wsX6_back RX6 := S
  have hx := S.1
  have hb := S.2.1
  have hts := S.2.2.2.2
  have hl : lv_has ls 2 [(0, .ref q_t), (1, .int p1)] := hl
  unfold f_X6_back at hf
  refine lv_iload_n hx hb dX6_back_0 rfl (lv_at hl 1 rfl) ?_
  obtain ⟨r1, h2, hf⟩ := bd1_some hf
  refine cl_i (wr := [(q_t, .inr (6, [.ref q_t_theRow, .ref q_t_pairs, .ref q_t_latestStrings, .ref q_t_leapStrings, .ref q_t_theRing, .ref q_t_trial, .ref q_t_sheets, .int t_moves, .int t_latestFinding])), (q_t_theRow, .inr (3, [.ref q_t_theRow_boxes, .ref q_t_theRow_made])), (q_t_theRow_boxes, .inl (cI, 240, .inl t_theRow_boxes)), (q_t_theRow_made, .inl (cI, 240, .inl t_theRow_made))]) (ws' := [(q_t, .inr (6, [.ref q_t_theRow, .ref q_t_pairs, .ref q_t_latestStrings, .ref q_t_leapStrings, .ref q_t_theRing, .ref q_t_trial, .ref q_t_sheets, .int t_moves, .int t_latestFinding])), (q_t_theRow, .inr (3, [.ref q_t_theRow_boxes, .ref q_t_theRow_made])), (q_t_theRow_boxes, .inl (cI, 240, .inl t_theRow_boxes)), (q_t_theRow_made, .inl (cI, 240, .inl t_theRow_made))]) hA hw [] [0, 1, 2, 3] [0, 1, 2, 3] rfl rfl rfl (by decide) rfl rfl (va_runS (As := [.int p1]) (rest := []) S (c_X6_isRoom l D cI cZ cJ cO _ N p1 r1 h2) (va_cwS 1 hts gX6_back_X6_isRoom rfl rfl rfl (by decide +kernel) ⟨Nat.le_of_ble_eq_true rfl, Nat.le_of_ble_eq_true rfl⟩) (pre_S hK hN hw [] rfl rfl) rfl rfl hl.1 rfl (lv_room (Nat.le_of_ble_eq_true rfl)) dX6_back_1 ⟨Nat.zero_le _, Nat.zero_le _⟩) (fun H locs hw => ?_)
  refine lv_if_eq (tgt := 16) hx hb dX6_back_4 (by decide) (fun c3 => ?_) (fun c3 => ?_)
  · have hf := (if_pos c3).symm.trans hf
    refine lv_bipush (v := (-2 : Int32)) hx hb dX6_back_16 (by decide) ?_
    obtain ⟨rfl, rfl, rfl, rfl⟩ := pr4 (Option.some.inj hf)
    exact rt_i S hr hlk hw dX6_back_18
  · have hf := (if_neg c3).symm.trans hf
    refine lv_aload_n hx hb dX6_back_7 rfl (lv_at hl 0 rfl) ?_
    refine lv_iload_n hx hb dX6_back_8 rfl (lv_at hl 1 rfl) ?_
    refine lv_iconst (v := (0 : Int32)) hx hb dX6_back_9 (by decide) ?_
    obtain ⟨r4, u5, u6, u7, h8, hf⟩ := bd4_some hf
    refine cl_i (wr := []) (ws' := [(q_t, .inr (6, [.ref q_t_theRow, .ref q_t_pairs, .ref q_t_latestStrings, .ref q_t_leapStrings, .ref q_t_theRing, .ref q_t_trial, .ref q_t_sheets, .int u5, .int t_latestFinding])), (q_t_theRow, .inr (3, [.ref q_t_theRow_boxes, .ref q_t_theRow_made])), (q_t_theRow_boxes, .inl (cI, 240, .inl u6)), (q_t_theRow_made, .inl (cI, 240, .inl u7))]) hA hw [0, 1, 2, 3] [] [0, 1, 2, 3] rfl rfl rfl (by decide) rfl rfl (va_runV (As := [.int p1, .int (0 : Int32)]) (rest := []) S (c_X6_carry l D cI cZ cJ cO _ q_t q_t_theRow q_t_pairs q_t_latestStrings q_t_leapStrings q_t_theRing q_t_trial q_t_sheets q_t_theRow_boxes q_t_theRow_made N p1 (0 : Int32) t_moves t_latestFinding t_theRow_boxes t_theRow_made r4 u5 u6 u7 h8) (cwV 2 hts gX6_back_X6_carry rfl rfl rfl (by decide +kernel) ⟨Nat.le_of_ble_eq_true rfl, Nat.le_of_ble_eq_true rfl⟩) (pre_V hK hN hw [0, 1, 2, 3] rfl rfl (C := RX6) (T := TX6) (N := 9) (ci := 6) (q0 := 0) rfl rfl) rfl rfl hl.1 rfl (lv_room (Nat.le_of_ble_eq_true rfl)) dX6_back_10 ⟨Nat.zero_le _, Nat.zero_le _⟩) (fun H locs hw => ?_)
    refine lv_goto (tgt := 18) hx hb dX6_back_13 (by decide) ?_
    obtain ⟨rfl, rfl, rfl, rfl⟩ := pr4 (Option.some.inj hf)
    exact rt_i S hr hlk hw dX6_back_18

def f_X6_kept (N : Nat) (p1 : Int32) (t_theRow_boxes : (Nat → Int32)) : Option (Int32) :=
  (bd1 (f_X6_isRoom N p1) (fun r1 => (if r1 = (0 : Int32) then (some (-2 : Int32)) else (bd1 (f_X3_takenBy N p1 t_theRow_boxes) (fun r4 => (some r4))))))

set_option maxHeartbeats 4000000 in
set_option maxRecDepth 100000 in
theorem c_X6_kept (l : Launch) (D : va_G) (cI cZ cJ cO : ClassId) (sz : Nat) (q_t q_t_theRow q_t_pairs q_t_latestStrings q_t_leapStrings q_t_theRing q_t_trial q_t_sheets q_t_theRow_boxes q_t_theRow_made : Nat) (N : Nat) (p1 : Int32) (t_moves : Int32) (t_latestFinding : Int32) (t_theRow_boxes : (Nat → Int32)) (r : Int32) (hf : f_X6_kept N p1 t_theRow_boxes = some r) : Met l yX6_kept wsX6_kept ({ frames := 2, cells := 0, slots := 0, locals := 47 }) (PreC D (TY cI cZ cJ cO) [.ref q_t, .int p1] [(q_t, .inr (6, [.ref q_t_theRow, .ref q_t_pairs, .ref q_t_latestStrings, .ref q_t_leapStrings, .ref q_t_theRing, .ref q_t_trial, .ref q_t_sheets, .int t_moves, .int t_latestFinding])), (q_t_theRow, .inr (3, [.ref q_t_theRow_boxes, .ref q_t_theRow_made])), (q_t_theRow_boxes, .inl (cI, 240, .inl t_theRow_boxes))] sz) (QcI D [(q_t, .inr (6, [.ref q_t_theRow, .ref q_t_pairs, .ref q_t_latestStrings, .ref q_t_leapStrings, .ref q_t_theRing, .ref q_t_trial, .ref q_t_sheets, .int t_moves, .int t_latestFinding])), (q_t_theRow, .inr (3, [.ref q_t_theRow_boxes, .ref q_t_theRow_made])), (q_t_theRow_boxes, .inl (cI, 240, .inl t_theRow_boxes))] (va_A [(q_t, .inr (6, [.ref q_t_theRow, .ref q_t_pairs, .ref q_t_latestStrings, .ref q_t_leapStrings, .ref q_t_theRing, .ref q_t_trial, .ref q_t_sheets, .int t_moves, .int t_latestFinding])), (q_t_theRow, .inr (3, [.ref q_t_theRow_boxes, .ref q_t_theRow_made])), (q_t_theRow_boxes, .inl (cI, 240, .inl t_theRow_boxes))] sz) r) 0 0 (va_A [(q_t, .inr (6, [.ref q_t_theRow, .ref q_t_pairs, .ref q_t_latestStrings, .ref q_t_leapStrings, .ref q_t_theRing, .ref q_t_trial, .ref q_t_sheets, .int t_moves, .int t_latestFinding])), (q_t_theRow, .inr (3, [.ref q_t_theRow_boxes, .ref q_t_theRow_made])), (q_t_theRow_boxes, .inl (cI, 240, .inl t_theRow_boxes))] sz) := by
  refine ctr (cc := cX6_kept) (maxL := 2) (ret := (some .int)) (by decide) rfl (Nat.le_of_ble_eq_true rfl) ?_
  intro p e s m below meth c S hr hlk hnm hK hN hsz hA hw ls hl
  generalize va_A [(q_t, .inr (6, [.ref q_t_theRow, .ref q_t_pairs, .ref q_t_latestStrings, .ref q_t_leapStrings, .ref q_t_theRing, .ref q_t_trial, .ref q_t_sheets, .int t_moves, .int t_latestFinding])), (q_t_theRow, .inr (3, [.ref q_t_theRow_boxes, .ref q_t_theRow_made])), (q_t_theRow_boxes, .inl (cI, 240, .inl t_theRow_boxes))] sz = A at hA hw ⊢
  have S : CallFix p m c cX6_kept 2 s ([.ref q_t, .int p1] : List Value).toArray wsX6_kept RX6 := S
  have hx := S.1
  have hb := S.2.1
  have hts := S.2.2.2.2
  have hl : lv_has ls 2 [(0, .ref q_t), (1, .int p1)] := hl
  have hinX6 : ∀ w ∈ u_ws RX6 TX6 9, w ∈ wsX6_kept := by decide +kernel
  have k10 : Cond.fieldLink RX6 10 "BallBoxes" "theRow" "LBallBoxes$Row;" ∈ wsX6_kept := by decide +kernel
  unfold f_X6_kept at hf
  refine lv_iload_n hx hb dX6_kept_0 rfl (lv_at hl 1 rfl) ?_
  obtain ⟨r1, h2, hf⟩ := bd1_some hf
  refine cl_i (wr := [(q_t, .inr (6, [.ref q_t_theRow, .ref q_t_pairs, .ref q_t_latestStrings, .ref q_t_leapStrings, .ref q_t_theRing, .ref q_t_trial, .ref q_t_sheets, .int t_moves, .int t_latestFinding])), (q_t_theRow, .inr (3, [.ref q_t_theRow_boxes, .ref q_t_theRow_made])), (q_t_theRow_boxes, .inl (cI, 240, .inl t_theRow_boxes))]) (ws' := [(q_t, .inr (6, [.ref q_t_theRow, .ref q_t_pairs, .ref q_t_latestStrings, .ref q_t_leapStrings, .ref q_t_theRing, .ref q_t_trial, .ref q_t_sheets, .int t_moves, .int t_latestFinding])), (q_t_theRow, .inr (3, [.ref q_t_theRow_boxes, .ref q_t_theRow_made])), (q_t_theRow_boxes, .inl (cI, 240, .inl t_theRow_boxes))]) hA hw [] [0, 1, 2] [0, 1, 2] rfl rfl rfl (by decide) rfl rfl (va_runS (As := [.int p1]) (rest := []) S (c_X6_isRoom l D cI cZ cJ cO _ N p1 r1 h2) (va_cwS 1 hts gX6_kept_X6_isRoom rfl rfl rfl (by decide +kernel) ⟨Nat.le_of_ble_eq_true rfl, Nat.le_of_ble_eq_true rfl⟩) (pre_S hK hN hw [] rfl rfl) rfl rfl hl.1 rfl (lv_room (Nat.le_of_ble_eq_true rfl)) dX6_kept_1 ⟨Nat.zero_le _, Nat.zero_le _⟩) (fun H locs hw => ?_)
  refine lv_if_eq (tgt := 18) hx hb dX6_kept_4 (by decide) (fun c3 => ?_) (fun c3 => ?_)
  · have hf := (if_pos c3).symm.trans hf
    refine lv_bipush (v := (-2 : Int32)) hx hb dX6_kept_18 (by decide) ?_
    obtain rfl := Option.some.inj hf
    exact rt_i S hr hlk hw dX6_kept_20
  · have hf := (if_neg c3).symm.trans hf
    refine lv_aload_n hx hb dX6_kept_7 rfl (lv_at hl 0 rfl) ?_
    refine g_get (ci := 6) (C := RX6) (T := TX6) (N := 9) S hinX6 hK hw 0 0 k10 dX6_kept_8 rfl rfl (by decide) rfl ?_
    refine lv_iload_n hx hb dX6_kept_11 rfl (lv_at hl 1 rfl) ?_
    obtain ⟨r4, h5, hf⟩ := bd1_some hf
    refine cl_i (wr := [(q_t, .inr (6, [.ref q_t_theRow, .ref q_t_pairs, .ref q_t_latestStrings, .ref q_t_leapStrings, .ref q_t_theRing, .ref q_t_trial, .ref q_t_sheets, .int t_moves, .int t_latestFinding]))]) (ws' := [(q_t, .inr (6, [.ref q_t_theRow, .ref q_t_pairs, .ref q_t_latestStrings, .ref q_t_leapStrings, .ref q_t_theRing, .ref q_t_trial, .ref q_t_sheets, .int t_moves, .int t_latestFinding])), (q_t_theRow, .inr (3, [.ref q_t_theRow_boxes, .ref q_t_theRow_made])), (q_t_theRow_boxes, .inl (cI, 240, .inl t_theRow_boxes))]) hA hw [1, 2] [0] [0, 1, 2] rfl rfl rfl (by decide) rfl rfl (va_runV (As := [.int p1]) (rest := []) S (c_X3_takenBy l D cI cZ cJ cO _ q_t_theRow q_t_theRow_boxes q_t_theRow_made N p1 t_theRow_boxes r4 h5) (cwV 1 hts gX6_kept_X3_takenBy rfl rfl rfl (by decide +kernel) ⟨Nat.le_of_ble_eq_true rfl, Nat.le_of_ble_eq_true rfl⟩) (pre_V hK hN hw [1, 2] rfl rfl (C := RX3) (T := TX3) (N := 2) (ci := 3) (q0 := 0) rfl rfl) rfl rfl hl.1 rfl (lv_room (Nat.le_of_ble_eq_true rfl)) dX6_kept_12 ⟨Nat.zero_le _, Nat.zero_le _⟩) (fun H locs hw => ?_)
    refine lv_goto (tgt := 20) hx hb dX6_kept_15 (by decide) ?_
    obtain rfl := Option.some.inj hf
    exact rt_i S hr hlk hw dX6_kept_20

def f_X6_row (N : Nat) (p1 : Int32) (t_theRow_boxes : (Nat → Int32)) (t_pairs_size : Int32) (t_pairs_left : (Nat → Int32)) : Option (Int32 × Int32 × (Nat → Int32)) :=
  (if p1 = (0 : Int32) then (bd1 (f_X3_balls N t_theRow_boxes) (fun r2 => (some (r2, t_pairs_size, t_pairs_left)))) else (if p1 = (1 : Int32) then (bd1 (f_X3_firstBall N t_theRow_boxes) (fun r5 => (some (r5, t_pairs_size, t_pairs_left)))) else (if p1 = (2 : Int32) then (bd1 (f_X3_lastBall N t_theRow_boxes) (fun r8 => (some (r8, t_pairs_size, t_pairs_left)))) else (if p1 = (3 : Int32) then (bd3 (f_X0_heapsOf N t_pairs_size t_pairs_left t_theRow_boxes) (fun r11 u12 u13 => (some (r11, u12, u13)))) else (some ((-2 : Int32), t_pairs_size, t_pairs_left))))))

set_option maxHeartbeats 4000000 in
set_option maxRecDepth 100000 in
theorem c_X6_row (l : Launch) (D : va_G) (cI cZ cJ cO : ClassId) (sz : Nat) (q_t q_t_theRow q_t_pairs q_t_latestStrings q_t_leapStrings q_t_theRing q_t_trial q_t_sheets q_t_theRow_boxes q_t_theRow_made q_t_pairs_left : Nat) (N : Nat) (p1 : Int32) (t_moves : Int32) (t_latestFinding : Int32) (t_theRow_boxes : (Nat → Int32)) (t_pairs_size : Int32) (t_pairs_left : (Nat → Int32)) (r : Int32) (o_t_pairs_size : Int32) (o_t_pairs_left : (Nat → Int32)) (hf : f_X6_row N p1 t_theRow_boxes t_pairs_size t_pairs_left = some (r, o_t_pairs_size, o_t_pairs_left)) : Met l yX6_row wsX6_row ({ frames := 4, cells := 0, slots := 0, locals := 84 }) (PreC D (TY cI cZ cJ cO) [.ref q_t, .int p1] [(q_t, .inr (6, [.ref q_t_theRow, .ref q_t_pairs, .ref q_t_latestStrings, .ref q_t_leapStrings, .ref q_t_theRing, .ref q_t_trial, .ref q_t_sheets, .int t_moves, .int t_latestFinding])), (q_t_theRow, .inr (3, [.ref q_t_theRow_boxes, .ref q_t_theRow_made])), (q_t_theRow_boxes, .inl (cI, 240, .inl t_theRow_boxes)), (q_t_pairs, .inr (0, [.ref q_t_pairs_left, .int t_pairs_size])), (q_t_pairs_left, .inl (cI, 240, .inl t_pairs_left))] sz) (QcI D [(q_t, .inr (6, [.ref q_t_theRow, .ref q_t_pairs, .ref q_t_latestStrings, .ref q_t_leapStrings, .ref q_t_theRing, .ref q_t_trial, .ref q_t_sheets, .int t_moves, .int t_latestFinding])), (q_t_theRow, .inr (3, [.ref q_t_theRow_boxes, .ref q_t_theRow_made])), (q_t_theRow_boxes, .inl (cI, 240, .inl t_theRow_boxes)), (q_t_pairs, .inr (0, [.ref q_t_pairs_left, .int o_t_pairs_size])), (q_t_pairs_left, .inl (cI, 240, .inl o_t_pairs_left))] (va_A [(q_t, .inr (6, [.ref q_t_theRow, .ref q_t_pairs, .ref q_t_latestStrings, .ref q_t_leapStrings, .ref q_t_theRing, .ref q_t_trial, .ref q_t_sheets, .int t_moves, .int t_latestFinding])), (q_t_theRow, .inr (3, [.ref q_t_theRow_boxes, .ref q_t_theRow_made])), (q_t_theRow_boxes, .inl (cI, 240, .inl t_theRow_boxes)), (q_t_pairs, .inr (0, [.ref q_t_pairs_left, .int t_pairs_size])), (q_t_pairs_left, .inl (cI, 240, .inl t_pairs_left))] sz) r) 0 0 (va_A [(q_t, .inr (6, [.ref q_t_theRow, .ref q_t_pairs, .ref q_t_latestStrings, .ref q_t_leapStrings, .ref q_t_theRing, .ref q_t_trial, .ref q_t_sheets, .int t_moves, .int t_latestFinding])), (q_t_theRow, .inr (3, [.ref q_t_theRow_boxes, .ref q_t_theRow_made])), (q_t_theRow_boxes, .inl (cI, 240, .inl t_theRow_boxes)), (q_t_pairs, .inr (0, [.ref q_t_pairs_left, .int t_pairs_size])), (q_t_pairs_left, .inl (cI, 240, .inl t_pairs_left))] sz) := by
  refine ctr (cc := cX6_row) (maxL := 2) (ret := (some .int)) (by decide) rfl (Nat.le_of_ble_eq_true rfl) ?_
  intro p e s m below meth c S hr hlk hnm hK hN hsz hA hw ls hl
  generalize va_A [(q_t, .inr (6, [.ref q_t_theRow, .ref q_t_pairs, .ref q_t_latestStrings, .ref q_t_leapStrings, .ref q_t_theRing, .ref q_t_trial, .ref q_t_sheets, .int t_moves, .int t_latestFinding])), (q_t_theRow, .inr (3, [.ref q_t_theRow_boxes, .ref q_t_theRow_made])), (q_t_theRow_boxes, .inl (cI, 240, .inl t_theRow_boxes)), (q_t_pairs, .inr (0, [.ref q_t_pairs_left, .int t_pairs_size])), (q_t_pairs_left, .inl (cI, 240, .inl t_pairs_left))] sz = A at hA hw ⊢
  have S : CallFix p m c cX6_row 2 s ([.ref q_t, .int p1] : List Value).toArray wsX6_row RX6 := S
  have hx := S.1
  have hb := S.2.1
  have hts := S.2.2.2.2
  have hl : lv_has ls 2 [(0, .ref q_t), (1, .int p1)] := hl
  have hinX6 : ∀ w ∈ u_ws RX6 TX6 9, w ∈ wsX6_row := by decide +kernel
  have k10 : Cond.fieldLink RX6 10 "BallBoxes" "theRow" "LBallBoxes$Row;" ∈ wsX6_row := by decide +kernel
  have k19 : Cond.fieldLink RX6 19 "BallBoxes" "pairs" "LBallBoxes$Pairs;" ∈ wsX6_row := by decide +kernel
  unfold f_X6_row at hf
  refine lv_iload_n hx hb dX6_row_0 rfl (lv_at hl 1 rfl) ?_
  by_cases c1 : p1 = (0 : Int32)
  · have hf := (if_pos c1).symm.trans hf
    refine lv_tableIn (off := 31) (tgt := 32) hx hb dX6_row_1 (by rw [c1]; decide) (by rw [c1]; decide) (by rw [c1]; decide) (by decide) ?_
    refine lv_aload_n hx hb dX6_row_32 rfl (lv_at hl 0 rfl) ?_
    refine g_get (ci := 6) (C := RX6) (T := TX6) (N := 9) S hinX6 hK hw 0 0 k10 dX6_row_33 rfl rfl (by decide) rfl ?_
    obtain ⟨r2, h3, hf⟩ := bd1_some hf
    refine cl_i (wr := [(q_t, .inr (6, [.ref q_t_theRow, .ref q_t_pairs, .ref q_t_latestStrings, .ref q_t_leapStrings, .ref q_t_theRing, .ref q_t_trial, .ref q_t_sheets, .int t_moves, .int t_latestFinding])), (q_t_pairs, .inr (0, [.ref q_t_pairs_left, .int t_pairs_size])), (q_t_pairs_left, .inl (cI, 240, .inl t_pairs_left))]) (ws' := [(q_t, .inr (6, [.ref q_t_theRow, .ref q_t_pairs, .ref q_t_latestStrings, .ref q_t_leapStrings, .ref q_t_theRing, .ref q_t_trial, .ref q_t_sheets, .int t_moves, .int t_latestFinding])), (q_t_theRow, .inr (3, [.ref q_t_theRow_boxes, .ref q_t_theRow_made])), (q_t_theRow_boxes, .inl (cI, 240, .inl t_theRow_boxes)), (q_t_pairs, .inr (0, [.ref q_t_pairs_left, .int t_pairs_size])), (q_t_pairs_left, .inl (cI, 240, .inl t_pairs_left))]) hA hw [1, 2] [0, 3, 4] [0, 3, 4, 1, 2] rfl rfl rfl (by decide) rfl rfl (va_runV (As := []) (rest := []) S (c_X3_balls l D cI cZ cJ cO _ q_t_theRow q_t_theRow_boxes q_t_theRow_made N t_theRow_boxes r2 h3) (cwV 0 hts gX6_row_X3_balls rfl rfl rfl (by decide +kernel) ⟨Nat.le_of_ble_eq_true rfl, Nat.le_of_ble_eq_true rfl⟩) (pre_V hK hN hw [1, 2] rfl rfl (C := RX3) (T := TX3) (N := 2) (ci := 3) (q0 := 0) rfl rfl) rfl rfl hl.1 rfl (lv_room (Nat.le_of_ble_eq_true rfl)) dX6_row_36 ⟨Nat.zero_le _, Nat.zero_le _⟩) (fun H locs hw => ?_)
    obtain ⟨rfl, rfl, rfl⟩ := pr3 (Option.some.inj hf)
    exact rt_i S hr hlk hw dX6_row_39
  have hf := (if_neg c1).symm.trans hf
  by_cases c4 : p1 = (1 : Int32)
  · have hf := (if_pos c4).symm.trans hf
    refine lv_tableIn (off := 39) (tgt := 40) hx hb dX6_row_1 (by rw [c4]; decide) (by rw [c4]; decide) (by rw [c4]; decide) (by decide) ?_
    refine lv_aload_n hx hb dX6_row_40 rfl (lv_at hl 0 rfl) ?_
    refine g_get (ci := 6) (C := RX6) (T := TX6) (N := 9) S hinX6 hK hw 0 0 k10 dX6_row_41 rfl rfl (by decide) rfl ?_
    obtain ⟨r5, h6, hf⟩ := bd1_some hf
    refine cl_i (wr := [(q_t, .inr (6, [.ref q_t_theRow, .ref q_t_pairs, .ref q_t_latestStrings, .ref q_t_leapStrings, .ref q_t_theRing, .ref q_t_trial, .ref q_t_sheets, .int t_moves, .int t_latestFinding])), (q_t_pairs, .inr (0, [.ref q_t_pairs_left, .int t_pairs_size])), (q_t_pairs_left, .inl (cI, 240, .inl t_pairs_left))]) (ws' := [(q_t, .inr (6, [.ref q_t_theRow, .ref q_t_pairs, .ref q_t_latestStrings, .ref q_t_leapStrings, .ref q_t_theRing, .ref q_t_trial, .ref q_t_sheets, .int t_moves, .int t_latestFinding])), (q_t_theRow, .inr (3, [.ref q_t_theRow_boxes, .ref q_t_theRow_made])), (q_t_theRow_boxes, .inl (cI, 240, .inl t_theRow_boxes)), (q_t_pairs, .inr (0, [.ref q_t_pairs_left, .int t_pairs_size])), (q_t_pairs_left, .inl (cI, 240, .inl t_pairs_left))]) hA hw [1, 2] [0, 3, 4] [0, 3, 4, 1, 2] rfl rfl rfl (by decide) rfl rfl (va_runV (As := []) (rest := []) S (c_X3_firstBall l D cI cZ cJ cO _ q_t_theRow q_t_theRow_boxes q_t_theRow_made N t_theRow_boxes r5 h6) (cwV 0 hts gX6_row_X3_firstBall rfl rfl rfl (by decide +kernel) ⟨Nat.le_of_ble_eq_true rfl, Nat.le_of_ble_eq_true rfl⟩) (pre_V hK hN hw [1, 2] rfl rfl (C := RX3) (T := TX3) (N := 2) (ci := 3) (q0 := 0) rfl rfl) rfl rfl hl.1 rfl (lv_room (Nat.le_of_ble_eq_true rfl)) dX6_row_44 ⟨Nat.zero_le _, Nat.zero_le _⟩) (fun H locs hw => ?_)
    obtain ⟨rfl, rfl, rfl⟩ := pr3 (Option.some.inj hf)
    exact rt_i S hr hlk hw dX6_row_47
  have hf := (if_neg c4).symm.trans hf
  by_cases c7 : p1 = (2 : Int32)
  · have hf := (if_pos c7).symm.trans hf
    refine lv_tableIn (off := 47) (tgt := 48) hx hb dX6_row_1 (by rw [c7]; decide) (by rw [c7]; decide) (by rw [c7]; decide) (by decide) ?_
    refine lv_aload_n hx hb dX6_row_48 rfl (lv_at hl 0 rfl) ?_
    refine g_get (ci := 6) (C := RX6) (T := TX6) (N := 9) S hinX6 hK hw 0 0 k10 dX6_row_49 rfl rfl (by decide) rfl ?_
    obtain ⟨r8, h9, hf⟩ := bd1_some hf
    refine cl_i (wr := [(q_t, .inr (6, [.ref q_t_theRow, .ref q_t_pairs, .ref q_t_latestStrings, .ref q_t_leapStrings, .ref q_t_theRing, .ref q_t_trial, .ref q_t_sheets, .int t_moves, .int t_latestFinding])), (q_t_pairs, .inr (0, [.ref q_t_pairs_left, .int t_pairs_size])), (q_t_pairs_left, .inl (cI, 240, .inl t_pairs_left))]) (ws' := [(q_t, .inr (6, [.ref q_t_theRow, .ref q_t_pairs, .ref q_t_latestStrings, .ref q_t_leapStrings, .ref q_t_theRing, .ref q_t_trial, .ref q_t_sheets, .int t_moves, .int t_latestFinding])), (q_t_theRow, .inr (3, [.ref q_t_theRow_boxes, .ref q_t_theRow_made])), (q_t_theRow_boxes, .inl (cI, 240, .inl t_theRow_boxes)), (q_t_pairs, .inr (0, [.ref q_t_pairs_left, .int t_pairs_size])), (q_t_pairs_left, .inl (cI, 240, .inl t_pairs_left))]) hA hw [1, 2] [0, 3, 4] [0, 3, 4, 1, 2] rfl rfl rfl (by decide) rfl rfl (va_runV (As := []) (rest := []) S (c_X3_lastBall l D cI cZ cJ cO _ q_t_theRow q_t_theRow_boxes q_t_theRow_made N t_theRow_boxes r8 h9) (cwV 0 hts gX6_row_X3_lastBall rfl rfl rfl (by decide +kernel) ⟨Nat.le_of_ble_eq_true rfl, Nat.le_of_ble_eq_true rfl⟩) (pre_V hK hN hw [1, 2] rfl rfl (C := RX3) (T := TX3) (N := 2) (ci := 3) (q0 := 0) rfl rfl) rfl rfl hl.1 rfl (lv_room (Nat.le_of_ble_eq_true rfl)) dX6_row_52 ⟨Nat.zero_le _, Nat.zero_le _⟩) (fun H locs hw => ?_)
    obtain ⟨rfl, rfl, rfl⟩ := pr3 (Option.some.inj hf)
    exact rt_i S hr hlk hw dX6_row_55
  have hf := (if_neg c7).symm.trans hf
  by_cases c10 : p1 = (3 : Int32)
  · have hf := (if_pos c10).symm.trans hf
    refine lv_tableIn (off := 55) (tgt := 56) hx hb dX6_row_1 (by rw [c10]; decide) (by rw [c10]; decide) (by rw [c10]; decide) (by decide) ?_
    refine lv_aload_n hx hb dX6_row_56 rfl (lv_at hl 0 rfl) ?_
    refine g_get (ci := 6) (C := RX6) (T := TX6) (N := 9) S hinX6 hK hw 0 1 k19 dX6_row_57 rfl rfl (by decide) rfl ?_
    refine lv_aload_n hx hb dX6_row_60 rfl (lv_at hl 0 rfl) ?_
    refine g_get (ci := 6) (C := RX6) (T := TX6) (N := 9) S hinX6 hK hw 0 0 k10 dX6_row_61 rfl rfl (by decide) rfl ?_
    obtain ⟨r11, u12, u13, h14, hf⟩ := bd3_some hf
    refine cl_i (wr := [(q_t, .inr (6, [.ref q_t_theRow, .ref q_t_pairs, .ref q_t_latestStrings, .ref q_t_leapStrings, .ref q_t_theRing, .ref q_t_trial, .ref q_t_sheets, .int t_moves, .int t_latestFinding]))]) (ws' := [(q_t, .inr (6, [.ref q_t_theRow, .ref q_t_pairs, .ref q_t_latestStrings, .ref q_t_leapStrings, .ref q_t_theRing, .ref q_t_trial, .ref q_t_sheets, .int t_moves, .int t_latestFinding])), (q_t_theRow, .inr (3, [.ref q_t_theRow_boxes, .ref q_t_theRow_made])), (q_t_theRow_boxes, .inl (cI, 240, .inl t_theRow_boxes)), (q_t_pairs, .inr (0, [.ref q_t_pairs_left, .int u12])), (q_t_pairs_left, .inl (cI, 240, .inl u13))]) hA hw [3, 4, 1, 2] [0] [0, 3, 4, 1, 2] rfl rfl rfl (by decide) rfl rfl (va_runV (As := [.ref q_t_theRow]) (rest := []) S (c_X0_heapsOf l D cI cZ cJ cO _ q_t_pairs q_t_pairs_left q_t_theRow q_t_theRow_boxes q_t_theRow_made N t_pairs_size t_pairs_left t_theRow_boxes r11 u12 u13 h14) (cwV 1 hts gX6_row_X0_heapsOf rfl rfl rfl (by decide +kernel) ⟨Nat.le_of_ble_eq_true rfl, Nat.le_of_ble_eq_true rfl⟩) (pre_V hK hN hw [3, 4, 1, 2] rfl rfl (C := RX0) (T := TX0) (N := 2) (ci := 0) (q0 := 0) rfl rfl) rfl rfl hl.1 rfl (lv_room (Nat.le_of_ble_eq_true rfl)) dX6_row_64 ⟨Nat.zero_le _, Nat.zero_le _⟩) (fun H locs hw => ?_)
    obtain ⟨rfl, rfl, rfl⟩ := pr3 (Option.some.inj hf)
    exact rt_i S hr hlk hw dX6_row_67
  have hf := (if_neg c10).symm.trans hf
  refine lv_tableOut (tgt := 68) hx hb dX6_row_1 (by have e0 := sw_ne c1 (z := 0) (by decide); have e1 := sw_ne c4 (z := 1) (by decide); have e2 := sw_ne c7 (z := 2) (by decide); have e3 := sw_ne c10 (z := 3) (by decide); omega) (by decide) ?_
  refine lv_bipush (v := (-2 : Int32)) hx hb dX6_row_68 (by decide) ?_
  obtain ⟨rfl, rfl, rfl⟩ := pr3 (Option.some.inj hf)
  exact rt_i S hr hlk hw dX6_row_70

def f_X6_heap (N : Nat) (p1 : Int32) (t_theRow_boxes : (Nat → Int32)) (t_pairs_size : Int32) (t_pairs_left : (Nat → Int32)) : Option (Int32 × Int32 × (Nat → Int32)) :=
  (if (0 : Int32) ≤ p1 then (bd3 (f_X0_countsAbove N p1 t_pairs_size t_pairs_left t_theRow_boxes) (fun r2 u3 u4 => (if r2 ≤ (0 : Int32) then (some ((-2 : Int32), u3, u4)) else (some (r2, u3, u4))))) else (some ((-2 : Int32), t_pairs_size, t_pairs_left)))

set_option maxHeartbeats 4000000 in
set_option maxRecDepth 100000 in
theorem c_X6_heap (l : Launch) (D : va_G) (cI cZ cJ cO : ClassId) (sz : Nat) (q_t q_t_theRow q_t_pairs q_t_latestStrings q_t_leapStrings q_t_theRing q_t_trial q_t_sheets q_t_theRow_boxes q_t_theRow_made q_t_pairs_left : Nat) (N : Nat) (p1 : Int32) (t_moves : Int32) (t_latestFinding : Int32) (t_theRow_boxes : (Nat → Int32)) (t_pairs_size : Int32) (t_pairs_left : (Nat → Int32)) (r : Int32) (o_t_pairs_size : Int32) (o_t_pairs_left : (Nat → Int32)) (hf : f_X6_heap N p1 t_theRow_boxes t_pairs_size t_pairs_left = some (r, o_t_pairs_size, o_t_pairs_left)) : Met l yX6_heap wsX6_heap ({ frames := 4, cells := 0, slots := 0, locals := 87 }) (PreC D (TY cI cZ cJ cO) [.ref q_t, .int p1] [(q_t, .inr (6, [.ref q_t_theRow, .ref q_t_pairs, .ref q_t_latestStrings, .ref q_t_leapStrings, .ref q_t_theRing, .ref q_t_trial, .ref q_t_sheets, .int t_moves, .int t_latestFinding])), (q_t_theRow, .inr (3, [.ref q_t_theRow_boxes, .ref q_t_theRow_made])), (q_t_theRow_boxes, .inl (cI, 240, .inl t_theRow_boxes)), (q_t_pairs, .inr (0, [.ref q_t_pairs_left, .int t_pairs_size])), (q_t_pairs_left, .inl (cI, 240, .inl t_pairs_left))] sz) (QcI D [(q_t, .inr (6, [.ref q_t_theRow, .ref q_t_pairs, .ref q_t_latestStrings, .ref q_t_leapStrings, .ref q_t_theRing, .ref q_t_trial, .ref q_t_sheets, .int t_moves, .int t_latestFinding])), (q_t_theRow, .inr (3, [.ref q_t_theRow_boxes, .ref q_t_theRow_made])), (q_t_theRow_boxes, .inl (cI, 240, .inl t_theRow_boxes)), (q_t_pairs, .inr (0, [.ref q_t_pairs_left, .int o_t_pairs_size])), (q_t_pairs_left, .inl (cI, 240, .inl o_t_pairs_left))] (va_A [(q_t, .inr (6, [.ref q_t_theRow, .ref q_t_pairs, .ref q_t_latestStrings, .ref q_t_leapStrings, .ref q_t_theRing, .ref q_t_trial, .ref q_t_sheets, .int t_moves, .int t_latestFinding])), (q_t_theRow, .inr (3, [.ref q_t_theRow_boxes, .ref q_t_theRow_made])), (q_t_theRow_boxes, .inl (cI, 240, .inl t_theRow_boxes)), (q_t_pairs, .inr (0, [.ref q_t_pairs_left, .int t_pairs_size])), (q_t_pairs_left, .inl (cI, 240, .inl t_pairs_left))] sz) r) 0 0 (va_A [(q_t, .inr (6, [.ref q_t_theRow, .ref q_t_pairs, .ref q_t_latestStrings, .ref q_t_leapStrings, .ref q_t_theRing, .ref q_t_trial, .ref q_t_sheets, .int t_moves, .int t_latestFinding])), (q_t_theRow, .inr (3, [.ref q_t_theRow_boxes, .ref q_t_theRow_made])), (q_t_theRow_boxes, .inl (cI, 240, .inl t_theRow_boxes)), (q_t_pairs, .inr (0, [.ref q_t_pairs_left, .int t_pairs_size])), (q_t_pairs_left, .inl (cI, 240, .inl t_pairs_left))] sz) := by
  refine ctr (cc := cX6_heap) (maxL := 3) (ret := (some .int)) (by decide) rfl (Nat.le_of_ble_eq_true rfl) ?_
  intro p e s m below meth c S hr hlk hnm hK hN hsz hA hw ls hl
  generalize va_A [(q_t, .inr (6, [.ref q_t_theRow, .ref q_t_pairs, .ref q_t_latestStrings, .ref q_t_leapStrings, .ref q_t_theRing, .ref q_t_trial, .ref q_t_sheets, .int t_moves, .int t_latestFinding])), (q_t_theRow, .inr (3, [.ref q_t_theRow_boxes, .ref q_t_theRow_made])), (q_t_theRow_boxes, .inl (cI, 240, .inl t_theRow_boxes)), (q_t_pairs, .inr (0, [.ref q_t_pairs_left, .int t_pairs_size])), (q_t_pairs_left, .inl (cI, 240, .inl t_pairs_left))] sz = A at hA hw ⊢
  have S : CallFix p m c cX6_heap 3 s ([.ref q_t, .int p1] : List Value).toArray wsX6_heap RX6 := S
  have hx := S.1
  have hb := S.2.1
  have hts := S.2.2.2.2
  have hl : lv_has ls 3 [(0, .ref q_t), (1, .int p1)] := hl
  have hinX6 : ∀ w ∈ u_ws RX6 TX6 9, w ∈ wsX6_heap := by decide +kernel
  have k10 : Cond.fieldLink RX6 10 "BallBoxes" "theRow" "LBallBoxes$Row;" ∈ wsX6_heap := by decide +kernel
  have k19 : Cond.fieldLink RX6 19 "BallBoxes" "pairs" "LBallBoxes$Pairs;" ∈ wsX6_heap := by decide +kernel
  unfold f_X6_heap at hf
  refine lv_iload_n hx hb dX6_heap_0 rfl (lv_at hl 1 rfl) ?_
  refine lv_if_ge (tgt := 7) hx hb dX6_heap_1 (by decide) (fun c1 => ?_) (fun c1 => ?_)
  · have hf := (if_pos c1).symm.trans hf
    refine lv_aload_n hx hb dX6_heap_7 rfl (lv_at hl 0 rfl) ?_
    refine g_get (ci := 6) (C := RX6) (T := TX6) (N := 9) S hinX6 hK hw 0 1 k19 dX6_heap_8 rfl rfl (by decide) rfl ?_
    refine lv_aload_n hx hb dX6_heap_11 rfl (lv_at hl 0 rfl) ?_
    refine g_get (ci := 6) (C := RX6) (T := TX6) (N := 9) S hinX6 hK hw 0 0 k10 dX6_heap_12 rfl rfl (by decide) rfl ?_
    refine lv_iload_n hx hb dX6_heap_15 rfl (lv_at hl 1 rfl) ?_
    obtain ⟨r2, u3, u4, h5, hf⟩ := bd3_some hf
    refine cl_i (wr := [(q_t, .inr (6, [.ref q_t_theRow, .ref q_t_pairs, .ref q_t_latestStrings, .ref q_t_leapStrings, .ref q_t_theRing, .ref q_t_trial, .ref q_t_sheets, .int t_moves, .int t_latestFinding]))]) (ws' := [(q_t, .inr (6, [.ref q_t_theRow, .ref q_t_pairs, .ref q_t_latestStrings, .ref q_t_leapStrings, .ref q_t_theRing, .ref q_t_trial, .ref q_t_sheets, .int t_moves, .int t_latestFinding])), (q_t_theRow, .inr (3, [.ref q_t_theRow_boxes, .ref q_t_theRow_made])), (q_t_theRow_boxes, .inl (cI, 240, .inl t_theRow_boxes)), (q_t_pairs, .inr (0, [.ref q_t_pairs_left, .int u3])), (q_t_pairs_left, .inl (cI, 240, .inl u4))]) hA hw [3, 4, 1, 2] [0] [0, 3, 4, 1, 2] rfl rfl rfl (by decide) rfl rfl (va_runV (As := [.ref q_t_theRow, .int p1]) (rest := []) S (c_X0_countsAbove l D cI cZ cJ cO _ q_t_pairs q_t_pairs_left q_t_theRow q_t_theRow_boxes q_t_theRow_made N p1 t_pairs_size t_pairs_left t_theRow_boxes r2 u3 u4 h5) (cwV 2 hts gX6_heap_X0_countsAbove rfl rfl rfl (by decide +kernel) ⟨Nat.le_of_ble_eq_true rfl, Nat.le_of_ble_eq_true rfl⟩) (pre_V hK hN hw [3, 4, 1, 2] rfl rfl (C := RX0) (T := TX0) (N := 2) (ci := 0) (q0 := 0) rfl rfl) rfl rfl hl.1 rfl (lv_room (Nat.le_of_ble_eq_true rfl)) dX6_heap_16 ⟨Nat.zero_le _, Nat.zero_le _⟩) (fun H locs hw => ?_)
    refine lv_istore_n (lv' := [(2, .int r2), (0, .ref q_t), (1, .int p1)]) hx hb dX6_heap_19 rfl hl (by decide) rfl (fun ls hl => ?_)
    refine lv_iload_n hx hb dX6_heap_20 rfl (lv_at hl 0 rfl) ?_
    refine lv_if_le (tgt := 28) hx hb dX6_heap_21 (by decide) (fun c6 => ?_) (fun c6 => ?_)
    · have hf := (if_pos c6).symm.trans hf
      refine lv_bipush (v := (-2 : Int32)) hx hb dX6_heap_28 (by decide) ?_
      obtain ⟨rfl, rfl, rfl⟩ := pr3 (Option.some.inj hf)
      exact rt_i S hr hlk hw dX6_heap_30
    · have hf := (if_neg c6).symm.trans hf
      refine lv_iload_n hx hb dX6_heap_24 rfl (lv_at hl 0 rfl) ?_
      refine lv_goto (tgt := 30) hx hb dX6_heap_25 (by decide) ?_
      obtain ⟨rfl, rfl, rfl⟩ := pr3 (Option.some.inj hf)
      exact rt_i S hr hlk hw dX6_heap_30
  · have hf := (if_neg c1).symm.trans hf
    refine lv_bipush (v := (-2 : Int32)) hx hb dX6_heap_4 (by decide) ?_
    obtain ⟨rfl, rfl, rfl⟩ := pr3 (Option.some.inj hf)
    exact rt_i S hr hlk hw dX6_heap_6

def f_X6_strings (N : Nat) (p1 : Int32) (t_theRow_boxes : (Nat → Int32)) (t_latestStrings_size : Int32) (t_latestStrings_boxesRead : Int32) (t_latestStrings_lengths : (Nat → Int32)) (t_latestStrings_riggings : (Nat → Int32)) (t_latestStrings_lesserSums : (Nat → Int32)) : Option (Int32 × Int32 × Int32 × (Nat → Int32) × (Nat → Int32) × (Nat → Int32)) :=
  (if p1 < (0 : Int32) then (some ((-2 : Int32), t_latestStrings_size, t_latestStrings_boxesRead, t_latestStrings_lengths, t_latestStrings_riggings, t_latestStrings_lesserSums)) else (if p1 ≤ (240 : Int32) then (bd5 (f_X5_readFrom N p1 t_latestStrings_size t_latestStrings_boxesRead t_latestStrings_lengths t_latestStrings_riggings t_latestStrings_lesserSums t_theRow_boxes) (fun u3 u4 u5 u6 u7 => (bd2 (f_X5_sort N u3 u5 u6) (fun u9 u10 => (some (u3, u3, u4, u9, u10, u7)))))) else (some ((-2 : Int32), t_latestStrings_size, t_latestStrings_boxesRead, t_latestStrings_lengths, t_latestStrings_riggings, t_latestStrings_lesserSums))))

set_option maxHeartbeats 4000000 in
set_option maxRecDepth 100000 in
theorem c_X6_strings (l : Launch) (D : va_G) (cI cZ cJ cO : ClassId) (sz : Nat) (q_t q_t_theRow q_t_pairs q_t_latestStrings q_t_leapStrings q_t_theRing q_t_trial q_t_sheets q_t_theRow_boxes q_t_theRow_made q_t_latestStrings_lengths q_t_latestStrings_riggings q_t_latestStrings_lesserSums : Nat) (N : Nat) (p1 : Int32) (t_moves : Int32) (t_latestFinding : Int32) (t_theRow_boxes : (Nat → Int32)) (t_latestStrings_size : Int32) (t_latestStrings_boxesRead : Int32) (t_latestStrings_lengths : (Nat → Int32)) (t_latestStrings_riggings : (Nat → Int32)) (t_latestStrings_lesserSums : (Nat → Int32)) (r : Int32) (o_t_latestStrings_size : Int32) (o_t_latestStrings_boxesRead : Int32) (o_t_latestStrings_lengths : (Nat → Int32)) (o_t_latestStrings_riggings : (Nat → Int32)) (o_t_latestStrings_lesserSums : (Nat → Int32)) (hf : f_X6_strings N p1 t_theRow_boxes t_latestStrings_size t_latestStrings_boxesRead t_latestStrings_lengths t_latestStrings_riggings t_latestStrings_lesserSums = some (r, o_t_latestStrings_size, o_t_latestStrings_boxesRead, o_t_latestStrings_lengths, o_t_latestStrings_riggings, o_t_latestStrings_lesserSums)) : Met l yX6_strings wsX6_strings ({ frames := 6, cells := 0, slots := 0, locals := 132 }) (PreC D (TY cI cZ cJ cO) [.ref q_t, .int p1] [(q_t, .inr (6, [.ref q_t_theRow, .ref q_t_pairs, .ref q_t_latestStrings, .ref q_t_leapStrings, .ref q_t_theRing, .ref q_t_trial, .ref q_t_sheets, .int t_moves, .int t_latestFinding])), (q_t_theRow, .inr (3, [.ref q_t_theRow_boxes, .ref q_t_theRow_made])), (q_t_theRow_boxes, .inl (cI, 240, .inl t_theRow_boxes)), (q_t_latestStrings, .inr (5, [.ref q_t_latestStrings_lengths, .ref q_t_latestStrings_riggings, .ref q_t_latestStrings_lesserSums, .int t_latestStrings_size, .int t_latestStrings_boxesRead])), (q_t_latestStrings_lengths, .inl (cI, 240, .inl t_latestStrings_lengths)), (q_t_latestStrings_riggings, .inl (cI, 240, .inl t_latestStrings_riggings)), (q_t_latestStrings_lesserSums, .inl (cI, 241, .inl t_latestStrings_lesserSums))] sz) (QcI D [(q_t, .inr (6, [.ref q_t_theRow, .ref q_t_pairs, .ref q_t_latestStrings, .ref q_t_leapStrings, .ref q_t_theRing, .ref q_t_trial, .ref q_t_sheets, .int t_moves, .int t_latestFinding])), (q_t_theRow, .inr (3, [.ref q_t_theRow_boxes, .ref q_t_theRow_made])), (q_t_theRow_boxes, .inl (cI, 240, .inl t_theRow_boxes)), (q_t_latestStrings, .inr (5, [.ref q_t_latestStrings_lengths, .ref q_t_latestStrings_riggings, .ref q_t_latestStrings_lesserSums, .int o_t_latestStrings_size, .int o_t_latestStrings_boxesRead])), (q_t_latestStrings_lengths, .inl (cI, 240, .inl o_t_latestStrings_lengths)), (q_t_latestStrings_riggings, .inl (cI, 240, .inl o_t_latestStrings_riggings)), (q_t_latestStrings_lesserSums, .inl (cI, 241, .inl o_t_latestStrings_lesserSums))] (va_A [(q_t, .inr (6, [.ref q_t_theRow, .ref q_t_pairs, .ref q_t_latestStrings, .ref q_t_leapStrings, .ref q_t_theRing, .ref q_t_trial, .ref q_t_sheets, .int t_moves, .int t_latestFinding])), (q_t_theRow, .inr (3, [.ref q_t_theRow_boxes, .ref q_t_theRow_made])), (q_t_theRow_boxes, .inl (cI, 240, .inl t_theRow_boxes)), (q_t_latestStrings, .inr (5, [.ref q_t_latestStrings_lengths, .ref q_t_latestStrings_riggings, .ref q_t_latestStrings_lesserSums, .int t_latestStrings_size, .int t_latestStrings_boxesRead])), (q_t_latestStrings_lengths, .inl (cI, 240, .inl t_latestStrings_lengths)), (q_t_latestStrings_riggings, .inl (cI, 240, .inl t_latestStrings_riggings)), (q_t_latestStrings_lesserSums, .inl (cI, 241, .inl t_latestStrings_lesserSums))] sz) r) 0 0 (va_A [(q_t, .inr (6, [.ref q_t_theRow, .ref q_t_pairs, .ref q_t_latestStrings, .ref q_t_leapStrings, .ref q_t_theRing, .ref q_t_trial, .ref q_t_sheets, .int t_moves, .int t_latestFinding])), (q_t_theRow, .inr (3, [.ref q_t_theRow_boxes, .ref q_t_theRow_made])), (q_t_theRow_boxes, .inl (cI, 240, .inl t_theRow_boxes)), (q_t_latestStrings, .inr (5, [.ref q_t_latestStrings_lengths, .ref q_t_latestStrings_riggings, .ref q_t_latestStrings_lesserSums, .int t_latestStrings_size, .int t_latestStrings_boxesRead])), (q_t_latestStrings_lengths, .inl (cI, 240, .inl t_latestStrings_lengths)), (q_t_latestStrings_riggings, .inl (cI, 240, .inl t_latestStrings_riggings)), (q_t_latestStrings_lesserSums, .inl (cI, 241, .inl t_latestStrings_lesserSums))] sz) := by
  refine ctr (cc := cX6_strings) (maxL := 2) (ret := (some .int)) (by decide) rfl (Nat.le_of_ble_eq_true rfl) ?_
  intro p e s m below meth c S hr hlk hnm hK hN hsz hA hw ls hl
  generalize va_A [(q_t, .inr (6, [.ref q_t_theRow, .ref q_t_pairs, .ref q_t_latestStrings, .ref q_t_leapStrings, .ref q_t_theRing, .ref q_t_trial, .ref q_t_sheets, .int t_moves, .int t_latestFinding])), (q_t_theRow, .inr (3, [.ref q_t_theRow_boxes, .ref q_t_theRow_made])), (q_t_theRow_boxes, .inl (cI, 240, .inl t_theRow_boxes)), (q_t_latestStrings, .inr (5, [.ref q_t_latestStrings_lengths, .ref q_t_latestStrings_riggings, .ref q_t_latestStrings_lesserSums, .int t_latestStrings_size, .int t_latestStrings_boxesRead])), (q_t_latestStrings_lengths, .inl (cI, 240, .inl t_latestStrings_lengths)), (q_t_latestStrings_riggings, .inl (cI, 240, .inl t_latestStrings_riggings)), (q_t_latestStrings_lesserSums, .inl (cI, 241, .inl t_latestStrings_lesserSums))] sz = A at hA hw ⊢
  have S : CallFix p m c cX6_strings 2 s ([.ref q_t, .int p1] : List Value).toArray wsX6_strings RX6 := S
  have hx := S.1
  have hb := S.2.1
  have hts := S.2.2.2.2
  have hl : lv_has ls 2 [(0, .ref q_t), (1, .int p1)] := hl
  have hinX5 : ∀ w ∈ u_ws RX5 TX5 5, w ∈ wsX6_strings := by decide +kernel
  have hinX6 : ∀ w ∈ u_ws RX6 TX6 9, w ∈ wsX6_strings := by decide +kernel
  have k10 : Cond.fieldLink RX6 10 "BallBoxes" "theRow" "LBallBoxes$Row;" ∈ wsX6_strings := by decide +kernel
  have k26 : Cond.fieldLink RX6 26 "BallBoxes" "latestStrings" "LBallBoxes$Strings;" ∈ wsX6_strings := by decide +kernel
  unfold f_X6_strings at hf
  refine lv_iload_n hx hb dX6_strings_0 rfl (lv_at hl 1 rfl) ?_
  refine lv_if_lt (tgt := 11) hx hb dX6_strings_1 (by decide) (fun c1 => ?_) (fun c1 => ?_)
  · have hf := (if_pos c1).symm.trans hf
    refine lv_bipush (v := (-2 : Int32)) hx hb dX6_strings_11 (by decide) ?_
    obtain ⟨rfl, rfl, rfl, rfl, rfl, rfl⟩ := pr6 (Option.some.inj hf)
    exact rt_i S hr hlk hw dX6_strings_13
  · have hf := (if_neg c1).symm.trans hf
    refine lv_iload_n hx hb dX6_strings_4 rfl (lv_at hl 1 rfl) ?_
    refine lv_sipush (v := (240 : Int32)) hx hb dX6_strings_5 (by decide) ?_
    refine lv_icmp_le (tgt := 14) hx hb dX6_strings_8 (by decide) (fun c2 => ?_) (fun c2 => ?_)
    · have hf := (if_pos c2).symm.trans hf
      refine lv_aload_n hx hb dX6_strings_14 rfl (lv_at hl 0 rfl) ?_
      refine g_get (ci := 6) (C := RX6) (T := TX6) (N := 9) S hinX6 hK hw 0 2 k26 dX6_strings_15 rfl rfl (by decide) rfl ?_
      refine lv_aload_n hx hb dX6_strings_18 rfl (lv_at hl 0 rfl) ?_
      refine g_get (ci := 6) (C := RX6) (T := TX6) (N := 9) S hinX6 hK hw 0 0 k10 dX6_strings_19 rfl rfl (by decide) rfl ?_
      refine lv_iload_n hx hb dX6_strings_22 rfl (lv_at hl 1 rfl) ?_
      obtain ⟨u3, u4, u5, u6, u7, h8, hf⟩ := bd5_some hf
      refine cl_v (wr := [(q_t, .inr (6, [.ref q_t_theRow, .ref q_t_pairs, .ref q_t_latestStrings, .ref q_t_leapStrings, .ref q_t_theRing, .ref q_t_trial, .ref q_t_sheets, .int t_moves, .int t_latestFinding]))]) (ws' := [(q_t, .inr (6, [.ref q_t_theRow, .ref q_t_pairs, .ref q_t_latestStrings, .ref q_t_leapStrings, .ref q_t_theRing, .ref q_t_trial, .ref q_t_sheets, .int t_moves, .int t_latestFinding])), (q_t_theRow, .inr (3, [.ref q_t_theRow_boxes, .ref q_t_theRow_made])), (q_t_theRow_boxes, .inl (cI, 240, .inl t_theRow_boxes)), (q_t_latestStrings, .inr (5, [.ref q_t_latestStrings_lengths, .ref q_t_latestStrings_riggings, .ref q_t_latestStrings_lesserSums, .int u3, .int u4])), (q_t_latestStrings_lengths, .inl (cI, 240, .inl u5)), (q_t_latestStrings_riggings, .inl (cI, 240, .inl u6)), (q_t_latestStrings_lesserSums, .inl (cI, 241, .inl u7))]) hA hw [3, 4, 5, 6, 1, 2] [0] [0, 5, 6, 1, 2, 3, 4] rfl rfl rfl (by decide) rfl rfl (va_runV (As := [.ref q_t_theRow, .int p1]) (rest := []) S (c_X5_readFrom l D cI cZ cJ cO _ q_t_latestStrings q_t_latestStrings_lengths q_t_latestStrings_riggings q_t_latestStrings_lesserSums q_t_theRow q_t_theRow_boxes q_t_theRow_made N p1 t_latestStrings_size t_latestStrings_boxesRead t_latestStrings_lengths t_latestStrings_riggings t_latestStrings_lesserSums t_theRow_boxes u3 u4 u5 u6 u7 h8) (cwV 2 hts gX6_strings_X5_readFrom rfl rfl rfl (by decide +kernel) ⟨Nat.le_of_ble_eq_true rfl, Nat.le_of_ble_eq_true rfl⟩) (pre_V hK hN hw [3, 4, 5, 6, 1, 2] rfl rfl (C := RX5) (T := TX5) (N := 5) (ci := 5) (q0 := 0) rfl rfl) rfl rfl hl.1 rfl (lv_room (Nat.le_of_ble_eq_true rfl)) dX6_strings_23 ⟨Nat.zero_le _, Nat.zero_le _⟩) (fun H locs hw => ?_)
      refine lv_aload_n hx hb dX6_strings_26 rfl (lv_at hl 0 rfl) ?_
      refine g_get (ci := 6) (C := RX6) (T := TX6) (N := 9) S hinX6 hK hw 0 2 k26 dX6_strings_27 rfl rfl (by decide) rfl ?_
      obtain ⟨u9, u10, h11, hf⟩ := bd2_some hf
      refine cl_v (wr := [(q_t, .inr (6, [.ref q_t_theRow, .ref q_t_pairs, .ref q_t_latestStrings, .ref q_t_leapStrings, .ref q_t_theRing, .ref q_t_trial, .ref q_t_sheets, .int t_moves, .int t_latestFinding])), (q_t_theRow, .inr (3, [.ref q_t_theRow_boxes, .ref q_t_theRow_made])), (q_t_theRow_boxes, .inl (cI, 240, .inl t_theRow_boxes)), (q_t_latestStrings_lesserSums, .inl (cI, 241, .inl u7))]) (ws' := [(q_t, .inr (6, [.ref q_t_theRow, .ref q_t_pairs, .ref q_t_latestStrings, .ref q_t_leapStrings, .ref q_t_theRing, .ref q_t_trial, .ref q_t_sheets, .int t_moves, .int t_latestFinding])), (q_t_theRow, .inr (3, [.ref q_t_theRow_boxes, .ref q_t_theRow_made])), (q_t_theRow_boxes, .inl (cI, 240, .inl t_theRow_boxes)), (q_t_latestStrings, .inr (5, [.ref q_t_latestStrings_lengths, .ref q_t_latestStrings_riggings, .ref q_t_latestStrings_lesserSums, .int u3, .int u4])), (q_t_latestStrings_lengths, .inl (cI, 240, .inl u9)), (q_t_latestStrings_riggings, .inl (cI, 240, .inl u10)), (q_t_latestStrings_lesserSums, .inl (cI, 241, .inl u7))]) hA hw [3, 4, 5] [0, 1, 2, 6] [0, 1, 2, 4, 5, 6, 3] rfl rfl rfl (by decide) rfl rfl (va_runV (As := []) (rest := []) S (c_X5_sort l D cI cZ cJ cO _ q_t_latestStrings q_t_latestStrings_lengths q_t_latestStrings_riggings q_t_latestStrings_lesserSums N u3 u4 u5 u6 u9 u10 h11) (cwV 0 hts gX6_strings_X5_sort rfl rfl rfl (by decide +kernel) ⟨Nat.le_of_ble_eq_true rfl, Nat.le_of_ble_eq_true rfl⟩) (pre_V hK hN hw [3, 4, 5] rfl rfl (C := RX5) (T := TX5) (N := 5) (ci := 5) (q0 := 0) rfl rfl) rfl rfl hl.1 rfl (lv_room (Nat.le_of_ble_eq_true rfl)) dX6_strings_30 ⟨Nat.zero_le _, Nat.zero_le _⟩) (fun H locs hw => ?_)
      refine lv_aload_n hx hb dX6_strings_33 rfl (lv_at hl 0 rfl) ?_
      refine g_get (ci := 6) (C := RX6) (T := TX6) (N := 9) S hinX6 hK hw 0 2 k26 dX6_strings_34 rfl rfl (by decide) rfl ?_
      refine g_getN (ci := 5) (C := RX5) (T := TX5) (N := 5) S hinX5 hK hN hw 3 3 nw_X6_104 dX6_strings_37 rfl rfl (by decide) rfl ?_
      obtain ⟨rfl, rfl, rfl, rfl, rfl, rfl⟩ := pr6 (Option.some.inj hf)
      exact rt_i S hr hlk hw dX6_strings_40
    · have hf := (if_neg c2).symm.trans hf
      refine lv_bipush (v := (-2 : Int32)) hx hb dX6_strings_11 (by decide) ?_
      obtain ⟨rfl, rfl, rfl, rfl, rfl, rfl⟩ := pr6 (Option.some.inj hf)
      exact rt_i S hr hlk hw dX6_strings_13

def f_X6_string (N : Nat) (p1 : Int32) (p2 : Int32) (t_latestStrings_size : Int32) (t_latestStrings_boxesRead : Int32) (t_latestStrings_lengths : (Nat → Int32)) (t_latestStrings_riggings : (Nat → Int32)) (t_latestStrings_lesserSums : (Nat → Int32)) : Option (Int32) :=
  (bd1 (f_X5_isString N p1 t_latestStrings_size) (fun r1 => (if r1 = (0 : Int32) then (some (-1000 : Int32)) else (if p2 = (0 : Int32) then (bd1 (f_X5_lengthOf N p1 t_latestStrings_size t_latestStrings_lengths) (fun r5 => (some r5))) else (if p2 = (1 : Int32) then (bd1 (f_X5_riggingOf N p1 t_latestStrings_size t_latestStrings_riggings) (fun r8 => (some r8))) else (if p2 = (2 : Int32) then (bd1 (f_X5_lengthOf N p1 t_latestStrings_size t_latestStrings_lengths) (fun r11 => (bd1 (f_X5_roomLeft N r11 t_latestStrings_boxesRead t_latestStrings_lesserSums) (fun r13 => (some r13))))) else (some (-1000 : Int32))))))))

set_option maxHeartbeats 4000000 in
set_option maxRecDepth 100000 in
theorem c_X6_string (l : Launch) (D : va_G) (cI cZ cJ cO : ClassId) (sz : Nat) (q_t q_t_theRow q_t_pairs q_t_latestStrings q_t_leapStrings q_t_theRing q_t_trial q_t_sheets q_t_latestStrings_lengths q_t_latestStrings_riggings q_t_latestStrings_lesserSums : Nat) (N : Nat) (p1 : Int32) (p2 : Int32) (t_moves : Int32) (t_latestFinding : Int32) (t_latestStrings_size : Int32) (t_latestStrings_boxesRead : Int32) (t_latestStrings_lengths : (Nat → Int32)) (t_latestStrings_riggings : (Nat → Int32)) (t_latestStrings_lesserSums : (Nat → Int32)) (r : Int32) (hf : f_X6_string N p1 p2 t_latestStrings_size t_latestStrings_boxesRead t_latestStrings_lengths t_latestStrings_riggings t_latestStrings_lesserSums = some r) : Met l yX6_string wsX6_string ({ frames := 2, cells := 0, slots := 0, locals := 42 }) (PreC D (TY cI cZ cJ cO) [.ref q_t, .int p1, .int p2] [(q_t, .inr (6, [.ref q_t_theRow, .ref q_t_pairs, .ref q_t_latestStrings, .ref q_t_leapStrings, .ref q_t_theRing, .ref q_t_trial, .ref q_t_sheets, .int t_moves, .int t_latestFinding])), (q_t_latestStrings, .inr (5, [.ref q_t_latestStrings_lengths, .ref q_t_latestStrings_riggings, .ref q_t_latestStrings_lesserSums, .int t_latestStrings_size, .int t_latestStrings_boxesRead])), (q_t_latestStrings_lengths, .inl (cI, 240, .inl t_latestStrings_lengths)), (q_t_latestStrings_riggings, .inl (cI, 240, .inl t_latestStrings_riggings)), (q_t_latestStrings_lesserSums, .inl (cI, 241, .inl t_latestStrings_lesserSums))] sz) (QcI D [(q_t, .inr (6, [.ref q_t_theRow, .ref q_t_pairs, .ref q_t_latestStrings, .ref q_t_leapStrings, .ref q_t_theRing, .ref q_t_trial, .ref q_t_sheets, .int t_moves, .int t_latestFinding])), (q_t_latestStrings, .inr (5, [.ref q_t_latestStrings_lengths, .ref q_t_latestStrings_riggings, .ref q_t_latestStrings_lesserSums, .int t_latestStrings_size, .int t_latestStrings_boxesRead])), (q_t_latestStrings_lengths, .inl (cI, 240, .inl t_latestStrings_lengths)), (q_t_latestStrings_riggings, .inl (cI, 240, .inl t_latestStrings_riggings)), (q_t_latestStrings_lesserSums, .inl (cI, 241, .inl t_latestStrings_lesserSums))] (va_A [(q_t, .inr (6, [.ref q_t_theRow, .ref q_t_pairs, .ref q_t_latestStrings, .ref q_t_leapStrings, .ref q_t_theRing, .ref q_t_trial, .ref q_t_sheets, .int t_moves, .int t_latestFinding])), (q_t_latestStrings, .inr (5, [.ref q_t_latestStrings_lengths, .ref q_t_latestStrings_riggings, .ref q_t_latestStrings_lesserSums, .int t_latestStrings_size, .int t_latestStrings_boxesRead])), (q_t_latestStrings_lengths, .inl (cI, 240, .inl t_latestStrings_lengths)), (q_t_latestStrings_riggings, .inl (cI, 240, .inl t_latestStrings_riggings)), (q_t_latestStrings_lesserSums, .inl (cI, 241, .inl t_latestStrings_lesserSums))] sz) r) 0 0 (va_A [(q_t, .inr (6, [.ref q_t_theRow, .ref q_t_pairs, .ref q_t_latestStrings, .ref q_t_leapStrings, .ref q_t_theRing, .ref q_t_trial, .ref q_t_sheets, .int t_moves, .int t_latestFinding])), (q_t_latestStrings, .inr (5, [.ref q_t_latestStrings_lengths, .ref q_t_latestStrings_riggings, .ref q_t_latestStrings_lesserSums, .int t_latestStrings_size, .int t_latestStrings_boxesRead])), (q_t_latestStrings_lengths, .inl (cI, 240, .inl t_latestStrings_lengths)), (q_t_latestStrings_riggings, .inl (cI, 240, .inl t_latestStrings_riggings)), (q_t_latestStrings_lesserSums, .inl (cI, 241, .inl t_latestStrings_lesserSums))] sz) := by
  refine ctr (cc := cX6_string) (maxL := 3) (ret := (some .int)) (by decide) rfl (Nat.le_of_ble_eq_true rfl) ?_
  intro p e s m below meth c S hr hlk hnm hK hN hsz hA hw ls hl
  generalize va_A [(q_t, .inr (6, [.ref q_t_theRow, .ref q_t_pairs, .ref q_t_latestStrings, .ref q_t_leapStrings, .ref q_t_theRing, .ref q_t_trial, .ref q_t_sheets, .int t_moves, .int t_latestFinding])), (q_t_latestStrings, .inr (5, [.ref q_t_latestStrings_lengths, .ref q_t_latestStrings_riggings, .ref q_t_latestStrings_lesserSums, .int t_latestStrings_size, .int t_latestStrings_boxesRead])), (q_t_latestStrings_lengths, .inl (cI, 240, .inl t_latestStrings_lengths)), (q_t_latestStrings_riggings, .inl (cI, 240, .inl t_latestStrings_riggings)), (q_t_latestStrings_lesserSums, .inl (cI, 241, .inl t_latestStrings_lesserSums))] sz = A at hA hw ⊢
  have S : CallFix p m c cX6_string 3 s ([.ref q_t, .int p1, .int p2] : List Value).toArray wsX6_string RX6 := S
  have hx := S.1
  have hb := S.2.1
  have hts := S.2.2.2.2
  have hl : lv_has ls 3 [(0, .ref q_t), (1, .int p1), (2, .int p2)] := hl
  have hinX5 : ∀ w ∈ u_ws RX5 TX5 5, w ∈ wsX6_string := by decide +kernel
  have hinX6 : ∀ w ∈ u_ws RX6 TX6 9, w ∈ wsX6_string := by decide +kernel
  have k26 : Cond.fieldLink RX6 26 "BallBoxes" "latestStrings" "LBallBoxes$Strings;" ∈ wsX6_string := by decide +kernel
  unfold f_X6_string at hf
  refine lv_aload_n hx hb dX6_string_0 rfl (lv_at hl 0 rfl) ?_
  refine g_get (ci := 6) (C := RX6) (T := TX6) (N := 9) S hinX6 hK hw 0 2 k26 dX6_string_1 rfl rfl (by decide) rfl ?_
  refine lv_iload_n hx hb dX6_string_4 rfl (lv_at hl 1 rfl) ?_
  obtain ⟨r1, h2, hf⟩ := bd1_some hf
  refine cl_i (wr := [(q_t, .inr (6, [.ref q_t_theRow, .ref q_t_pairs, .ref q_t_latestStrings, .ref q_t_leapStrings, .ref q_t_theRing, .ref q_t_trial, .ref q_t_sheets, .int t_moves, .int t_latestFinding])), (q_t_latestStrings_lengths, .inl (cI, 240, .inl t_latestStrings_lengths)), (q_t_latestStrings_riggings, .inl (cI, 240, .inl t_latestStrings_riggings)), (q_t_latestStrings_lesserSums, .inl (cI, 241, .inl t_latestStrings_lesserSums))]) (ws' := [(q_t, .inr (6, [.ref q_t_theRow, .ref q_t_pairs, .ref q_t_latestStrings, .ref q_t_leapStrings, .ref q_t_theRing, .ref q_t_trial, .ref q_t_sheets, .int t_moves, .int t_latestFinding])), (q_t_latestStrings, .inr (5, [.ref q_t_latestStrings_lengths, .ref q_t_latestStrings_riggings, .ref q_t_latestStrings_lesserSums, .int t_latestStrings_size, .int t_latestStrings_boxesRead])), (q_t_latestStrings_lengths, .inl (cI, 240, .inl t_latestStrings_lengths)), (q_t_latestStrings_riggings, .inl (cI, 240, .inl t_latestStrings_riggings)), (q_t_latestStrings_lesserSums, .inl (cI, 241, .inl t_latestStrings_lesserSums))]) hA hw [1] [0, 2, 3, 4] [0, 4, 1, 2, 3] rfl rfl rfl (by decide) rfl rfl (va_runV (As := [.int p1]) (rest := []) S (c_X5_isString l D cI cZ cJ cO _ q_t_latestStrings q_t_latestStrings_lengths q_t_latestStrings_riggings q_t_latestStrings_lesserSums N p1 t_latestStrings_size t_latestStrings_boxesRead r1 h2) (cwV 1 hts gX6_string_X5_isString rfl rfl rfl (by decide +kernel) ⟨Nat.le_of_ble_eq_true rfl, Nat.le_of_ble_eq_true rfl⟩) (pre_V hK hN hw [1] rfl rfl (C := RX5) (T := TX5) (N := 5) (ci := 5) (q0 := 0) rfl rfl) rfl rfl hl.1 rfl (lv_room (Nat.le_of_ble_eq_true rfl)) dX6_string_5 ⟨Nat.zero_le _, Nat.zero_le _⟩) (fun H locs hw => ?_)
  refine lv_if_ne (tgt := 15) hx hb dX6_string_8 (by decide) (fun c3 => ?_) (fun c3 => ?_)
  · have hf := (if_neg c3).symm.trans hf
    refine lv_iload_n hx hb dX6_string_15 rfl (lv_at hl 2 rfl) ?_
    by_cases c4 : p2 = (0 : Int32)
    · have hf := (if_pos c4).symm.trans hf
      refine lv_tableIn (off := 28) (tgt := 44) hx hb dX6_string_16 (by rw [c4]; decide) (by rw [c4]; decide) (by rw [c4]; decide) (by decide) ?_
      refine lv_aload_n hx hb dX6_string_44 rfl (lv_at hl 0 rfl) ?_
      refine g_get (ci := 6) (C := RX6) (T := TX6) (N := 9) S hinX6 hK hw 0 2 k26 dX6_string_45 rfl rfl (by decide) rfl ?_
      refine lv_iload_n hx hb dX6_string_48 rfl (lv_at hl 1 rfl) ?_
      obtain ⟨r5, h6, hf⟩ := bd1_some hf
      refine cl_i (wr := [(q_t, .inr (6, [.ref q_t_theRow, .ref q_t_pairs, .ref q_t_latestStrings, .ref q_t_leapStrings, .ref q_t_theRing, .ref q_t_trial, .ref q_t_sheets, .int t_moves, .int t_latestFinding])), (q_t_latestStrings_riggings, .inl (cI, 240, .inl t_latestStrings_riggings)), (q_t_latestStrings_lesserSums, .inl (cI, 241, .inl t_latestStrings_lesserSums))]) (ws' := [(q_t, .inr (6, [.ref q_t_theRow, .ref q_t_pairs, .ref q_t_latestStrings, .ref q_t_leapStrings, .ref q_t_theRing, .ref q_t_trial, .ref q_t_sheets, .int t_moves, .int t_latestFinding])), (q_t_latestStrings, .inr (5, [.ref q_t_latestStrings_lengths, .ref q_t_latestStrings_riggings, .ref q_t_latestStrings_lesserSums, .int t_latestStrings_size, .int t_latestStrings_boxesRead])), (q_t_latestStrings_lengths, .inl (cI, 240, .inl t_latestStrings_lengths)), (q_t_latestStrings_riggings, .inl (cI, 240, .inl t_latestStrings_riggings)), (q_t_latestStrings_lesserSums, .inl (cI, 241, .inl t_latestStrings_lesserSums))]) hA hw [1, 2] [0, 3, 4] [0, 3, 4, 1, 2] rfl rfl rfl (by decide) rfl rfl (va_runV (As := [.int p1]) (rest := []) S (c_X5_lengthOf l D cI cZ cJ cO _ q_t_latestStrings q_t_latestStrings_lengths q_t_latestStrings_riggings q_t_latestStrings_lesserSums N p1 t_latestStrings_size t_latestStrings_boxesRead t_latestStrings_lengths r5 h6) (cwV 1 hts gX6_string_X5_lengthOf rfl rfl rfl (by decide +kernel) ⟨Nat.le_of_ble_eq_true rfl, Nat.le_of_ble_eq_true rfl⟩) (pre_V hK hN hw [1, 2] rfl rfl (C := RX5) (T := TX5) (N := 5) (ci := 5) (q0 := 0) rfl rfl) rfl rfl hl.1 rfl (lv_room (Nat.le_of_ble_eq_true rfl)) dX6_string_49 ⟨Nat.zero_le _, Nat.zero_le _⟩) (fun H locs hw => ?_)
      obtain rfl := Option.some.inj hf
      exact rt_i S hr hlk hw dX6_string_52
    have hf := (if_neg c4).symm.trans hf
    by_cases c7 : p2 = (1 : Int32)
    · have hf := (if_pos c7).symm.trans hf
      refine lv_tableIn (off := 37) (tgt := 53) hx hb dX6_string_16 (by rw [c7]; decide) (by rw [c7]; decide) (by rw [c7]; decide) (by decide) ?_
      refine lv_aload_n hx hb dX6_string_53 rfl (lv_at hl 0 rfl) ?_
      refine g_get (ci := 6) (C := RX6) (T := TX6) (N := 9) S hinX6 hK hw 0 2 k26 dX6_string_54 rfl rfl (by decide) rfl ?_
      refine lv_iload_n hx hb dX6_string_57 rfl (lv_at hl 1 rfl) ?_
      obtain ⟨r8, h9, hf⟩ := bd1_some hf
      refine cl_i (wr := [(q_t, .inr (6, [.ref q_t_theRow, .ref q_t_pairs, .ref q_t_latestStrings, .ref q_t_leapStrings, .ref q_t_theRing, .ref q_t_trial, .ref q_t_sheets, .int t_moves, .int t_latestFinding])), (q_t_latestStrings_lengths, .inl (cI, 240, .inl t_latestStrings_lengths)), (q_t_latestStrings_lesserSums, .inl (cI, 241, .inl t_latestStrings_lesserSums))]) (ws' := [(q_t, .inr (6, [.ref q_t_theRow, .ref q_t_pairs, .ref q_t_latestStrings, .ref q_t_leapStrings, .ref q_t_theRing, .ref q_t_trial, .ref q_t_sheets, .int t_moves, .int t_latestFinding])), (q_t_latestStrings, .inr (5, [.ref q_t_latestStrings_lengths, .ref q_t_latestStrings_riggings, .ref q_t_latestStrings_lesserSums, .int t_latestStrings_size, .int t_latestStrings_boxesRead])), (q_t_latestStrings_lengths, .inl (cI, 240, .inl t_latestStrings_lengths)), (q_t_latestStrings_riggings, .inl (cI, 240, .inl t_latestStrings_riggings)), (q_t_latestStrings_lesserSums, .inl (cI, 241, .inl t_latestStrings_lesserSums))]) hA hw [1, 3] [0, 2, 4] [0, 3, 1, 4, 2] rfl rfl rfl (by decide) rfl rfl (va_runV (As := [.int p1]) (rest := []) S (c_X5_riggingOf l D cI cZ cJ cO _ q_t_latestStrings q_t_latestStrings_lengths q_t_latestStrings_riggings q_t_latestStrings_lesserSums N p1 t_latestStrings_size t_latestStrings_boxesRead t_latestStrings_riggings r8 h9) (cwV 1 hts gX6_string_X5_riggingOf rfl rfl rfl (by decide +kernel) ⟨Nat.le_of_ble_eq_true rfl, Nat.le_of_ble_eq_true rfl⟩) (pre_V hK hN hw [1, 3] rfl rfl (C := RX5) (T := TX5) (N := 5) (ci := 5) (q0 := 0) rfl rfl) rfl rfl hl.1 rfl (lv_room (Nat.le_of_ble_eq_true rfl)) dX6_string_58 ⟨Nat.zero_le _, Nat.zero_le _⟩) (fun H locs hw => ?_)
      obtain rfl := Option.some.inj hf
      exact rt_i S hr hlk hw dX6_string_61
    have hf := (if_neg c7).symm.trans hf
    by_cases c10 : p2 = (2 : Int32)
    · have hf := (if_pos c10).symm.trans hf
      refine lv_tableIn (off := 46) (tgt := 62) hx hb dX6_string_16 (by rw [c10]; decide) (by rw [c10]; decide) (by rw [c10]; decide) (by decide) ?_
      refine lv_aload_n hx hb dX6_string_62 rfl (lv_at hl 0 rfl) ?_
      refine g_get (ci := 6) (C := RX6) (T := TX6) (N := 9) S hinX6 hK hw 0 2 k26 dX6_string_63 rfl rfl (by decide) rfl ?_
      refine lv_aload_n hx hb dX6_string_66 rfl (lv_at hl 0 rfl) ?_
      refine g_get (ci := 6) (C := RX6) (T := TX6) (N := 9) S hinX6 hK hw 0 2 k26 dX6_string_67 rfl rfl (by decide) rfl ?_
      refine lv_iload_n hx hb dX6_string_70 rfl (lv_at hl 1 rfl) ?_
      obtain ⟨r11, h12, hf⟩ := bd1_some hf
      refine cl_i (wr := [(q_t, .inr (6, [.ref q_t_theRow, .ref q_t_pairs, .ref q_t_latestStrings, .ref q_t_leapStrings, .ref q_t_theRing, .ref q_t_trial, .ref q_t_sheets, .int t_moves, .int t_latestFinding])), (q_t_latestStrings_riggings, .inl (cI, 240, .inl t_latestStrings_riggings)), (q_t_latestStrings_lesserSums, .inl (cI, 241, .inl t_latestStrings_lesserSums))]) (ws' := [(q_t, .inr (6, [.ref q_t_theRow, .ref q_t_pairs, .ref q_t_latestStrings, .ref q_t_leapStrings, .ref q_t_theRing, .ref q_t_trial, .ref q_t_sheets, .int t_moves, .int t_latestFinding])), (q_t_latestStrings, .inr (5, [.ref q_t_latestStrings_lengths, .ref q_t_latestStrings_riggings, .ref q_t_latestStrings_lesserSums, .int t_latestStrings_size, .int t_latestStrings_boxesRead])), (q_t_latestStrings_lengths, .inl (cI, 240, .inl t_latestStrings_lengths)), (q_t_latestStrings_riggings, .inl (cI, 240, .inl t_latestStrings_riggings)), (q_t_latestStrings_lesserSums, .inl (cI, 241, .inl t_latestStrings_lesserSums))]) hA hw [1, 2] [0, 3, 4] [0, 3, 4, 1, 2] rfl rfl rfl (by decide) rfl rfl (va_runV (As := [.int p1]) (rest := [.ref q_t_latestStrings]) S (c_X5_lengthOf l D cI cZ cJ cO _ q_t_latestStrings q_t_latestStrings_lengths q_t_latestStrings_riggings q_t_latestStrings_lesserSums N p1 t_latestStrings_size t_latestStrings_boxesRead t_latestStrings_lengths r11 h12) (cwV 1 hts gX6_string_X5_lengthOf rfl rfl rfl (by decide +kernel) ⟨Nat.le_of_ble_eq_true rfl, Nat.le_of_ble_eq_true rfl⟩) (pre_V hK hN hw [1, 2] rfl rfl (C := RX5) (T := TX5) (N := 5) (ci := 5) (q0 := 0) rfl rfl) rfl rfl hl.1 rfl (lv_room (Nat.le_of_ble_eq_true rfl)) dX6_string_71 ⟨Nat.zero_le _, Nat.zero_le _⟩) (fun H locs hw => ?_)
      refine lv_aload_n hx hb dX6_string_74 rfl (lv_at hl 0 rfl) ?_
      refine g_get (ci := 6) (C := RX6) (T := TX6) (N := 9) S hinX6 hK hw 0 2 k26 dX6_string_75 rfl rfl (by decide) rfl ?_
      refine g_getN (ci := 5) (C := RX5) (T := TX5) (N := 5) S hinX5 hK hN hw 1 4 nw_X6_117 dX6_string_78 rfl rfl (by decide) rfl ?_
      obtain ⟨r13, h14, hf⟩ := bd1_some hf
      refine cl_i (wr := [(q_t, .inr (6, [.ref q_t_theRow, .ref q_t_pairs, .ref q_t_latestStrings, .ref q_t_leapStrings, .ref q_t_theRing, .ref q_t_trial, .ref q_t_sheets, .int t_moves, .int t_latestFinding])), (q_t_latestStrings_lengths, .inl (cI, 240, .inl t_latestStrings_lengths)), (q_t_latestStrings_riggings, .inl (cI, 240, .inl t_latestStrings_riggings))]) (ws' := [(q_t, .inr (6, [.ref q_t_theRow, .ref q_t_pairs, .ref q_t_latestStrings, .ref q_t_leapStrings, .ref q_t_theRing, .ref q_t_trial, .ref q_t_sheets, .int t_moves, .int t_latestFinding])), (q_t_latestStrings, .inr (5, [.ref q_t_latestStrings_lengths, .ref q_t_latestStrings_riggings, .ref q_t_latestStrings_lesserSums, .int t_latestStrings_size, .int t_latestStrings_boxesRead])), (q_t_latestStrings_lengths, .inl (cI, 240, .inl t_latestStrings_lengths)), (q_t_latestStrings_riggings, .inl (cI, 240, .inl t_latestStrings_riggings)), (q_t_latestStrings_lesserSums, .inl (cI, 241, .inl t_latestStrings_lesserSums))]) hA hw [1, 4] [0, 2, 3] [0, 3, 1, 2, 4] rfl rfl rfl (by decide) rfl rfl (va_runV (As := [.int r11, .int t_latestStrings_boxesRead]) (rest := []) S (c_X5_roomLeft l D cI cZ cJ cO _ q_t_latestStrings q_t_latestStrings_lengths q_t_latestStrings_riggings q_t_latestStrings_lesserSums N r11 t_latestStrings_boxesRead t_latestStrings_size t_latestStrings_boxesRead t_latestStrings_lesserSums r13 h14) (cwV 2 hts gX6_string_X5_roomLeft rfl rfl rfl (by decide +kernel) ⟨Nat.le_of_ble_eq_true rfl, Nat.le_of_ble_eq_true rfl⟩) (pre_V hK hN hw [1, 4] rfl rfl (C := RX5) (T := TX5) (N := 5) (ci := 5) (q0 := 0) rfl rfl) rfl rfl hl.1 rfl (lv_room (Nat.le_of_ble_eq_true rfl)) dX6_string_81 ⟨Nat.zero_le _, Nat.zero_le _⟩) (fun H locs hw => ?_)
      obtain rfl := Option.some.inj hf
      exact rt_i S hr hlk hw dX6_string_84
    have hf := (if_neg c10).symm.trans hf
    refine lv_tableOut (tgt := 85) hx hb dX6_string_16 (by have e0 := sw_ne c4 (z := 0) (by decide); have e1 := sw_ne c7 (z := 1) (by decide); have e2 := sw_ne c10 (z := 2) (by decide); omega) (by decide) ?_
    refine lv_sipush (v := (-1000 : Int32)) hx hb dX6_string_85 (by decide) ?_
    obtain rfl := Option.some.inj hf
    exact rt_i S hr hlk hw dX6_string_88
  · have hf := (if_pos c3).symm.trans hf
    refine lv_sipush (v := (-1000 : Int32)) hx hb dX6_string_11 (by decide) ?_
    obtain rfl := Option.some.inj hf
    exact rt_i S hr hlk hw dX6_string_14

def f_X6_leap (N : Nat) (p1 : Int32) (p2 : Int32) (t_moves : Int32) (t_theRow_boxes : (Nat → Int32)) (t_theRow_made : (Nat → Int32)) (t_leapStrings_size : Int32) (t_leapStrings_boxesRead : Int32) (t_leapStrings_lengths : (Nat → Int32)) (t_leapStrings_riggings : (Nat → Int32)) (t_leapStrings_lesserSums : (Nat → Int32)) : Option (Int32 × Int32 × (Nat → Int32) × (Nat → Int32) × Int32 × Int32 × (Nat → Int32) × (Nat → Int32) × (Nat → Int32)) :=
  (bd1 (f_X6_isRoom N p1) (fun r1 => (if r1 = (0 : Int32) then (some ((-2 : Int32), t_moves, t_theRow_boxes, t_theRow_made, t_leapStrings_size, t_leapStrings_boxesRead, t_leapStrings_lengths, t_leapStrings_riggings, t_leapStrings_lesserSums)) else (if p2 < (-1000 : Int32) then (some ((-2 : Int32), t_moves, t_theRow_boxes, t_theRow_made, t_leapStrings_size, t_leapStrings_boxesRead, t_leapStrings_lengths, t_leapStrings_riggings, t_leapStrings_lesserSums)) else (if p2 ≤ (1000 : Int32) then (bd5 (f_X5_readFrom N (240 : Int32) t_leapStrings_size t_leapStrings_boxesRead t_leapStrings_lengths t_leapStrings_riggings t_leapStrings_lesserSums t_theRow_boxes) (fun u6 u7 u8 u9 u10 => (bd1 (f_X5_addToRiggings N p1 p2 u6 u8 u9) (fun u12 => (bd1 (f_X5_haveRoomBehind N (240 : Int32) u6 u8 u12 u10) (fun r14 => (if r14 = (0 : Int32) then (some ((-4 : Int32), t_moves, t_theRow_boxes, t_theRow_made, u6, u7, u8, u12, u10)) else (bd6 (f_X5_makeInto N u6 u8 u12 u10 t_theRow_made) (fun r17 u18 u19 u20 u21 u22 => (if r17 = (0 : Int32) then (some ((-4 : Int32), t_moves, t_theRow_boxes, u22, u18, u7, u19, u20, u21)) else (bd2 (f_X3_becomeMade N t_theRow_boxes u22) (fun r25 u26 => (some (r25, (t_moves + (1 : Int32)), u26, u22, u18, u7, u19, u20, u21)))))))))))))) else (some ((-2 : Int32), t_moves, t_theRow_boxes, t_theRow_made, t_leapStrings_size, t_leapStrings_boxesRead, t_leapStrings_lengths, t_leapStrings_riggings, t_leapStrings_lesserSums)))))))

set_option maxHeartbeats 4000000 in
set_option maxRecDepth 100000 in
theorem c_X6_leap (l : Launch) (D : va_G) (cI cZ cJ cO : ClassId) (sz : Nat) (q_t q_t_theRow q_t_pairs q_t_latestStrings q_t_leapStrings q_t_theRing q_t_trial q_t_sheets q_t_theRow_boxes q_t_theRow_made q_t_leapStrings_lengths q_t_leapStrings_riggings q_t_leapStrings_lesserSums : Nat) (N : Nat) (p1 : Int32) (p2 : Int32) (t_moves : Int32) (t_latestFinding : Int32) (t_theRow_boxes : (Nat → Int32)) (t_theRow_made : (Nat → Int32)) (t_leapStrings_size : Int32) (t_leapStrings_boxesRead : Int32) (t_leapStrings_lengths : (Nat → Int32)) (t_leapStrings_riggings : (Nat → Int32)) (t_leapStrings_lesserSums : (Nat → Int32)) (r : Int32) (o_t_moves : Int32) (o_t_theRow_boxes : (Nat → Int32)) (o_t_theRow_made : (Nat → Int32)) (o_t_leapStrings_size : Int32) (o_t_leapStrings_boxesRead : Int32) (o_t_leapStrings_lengths : (Nat → Int32)) (o_t_leapStrings_riggings : (Nat → Int32)) (o_t_leapStrings_lesserSums : (Nat → Int32)) (hf : f_X6_leap N p1 p2 t_moves t_theRow_boxes t_theRow_made t_leapStrings_size t_leapStrings_boxesRead t_leapStrings_lengths t_leapStrings_riggings t_leapStrings_lesserSums = some (r, o_t_moves, o_t_theRow_boxes, o_t_theRow_made, o_t_leapStrings_size, o_t_leapStrings_boxesRead, o_t_leapStrings_lengths, o_t_leapStrings_riggings, o_t_leapStrings_lesserSums)) : Met l yX6_leap wsX6_leap ({ frames := 6, cells := 0, slots := 0, locals := 132 }) (PreC D (TY cI cZ cJ cO) [.ref q_t, .int p1, .int p2] [(q_t, .inr (6, [.ref q_t_theRow, .ref q_t_pairs, .ref q_t_latestStrings, .ref q_t_leapStrings, .ref q_t_theRing, .ref q_t_trial, .ref q_t_sheets, .int t_moves, .int t_latestFinding])), (q_t_theRow, .inr (3, [.ref q_t_theRow_boxes, .ref q_t_theRow_made])), (q_t_theRow_boxes, .inl (cI, 240, .inl t_theRow_boxes)), (q_t_theRow_made, .inl (cI, 240, .inl t_theRow_made)), (q_t_leapStrings, .inr (5, [.ref q_t_leapStrings_lengths, .ref q_t_leapStrings_riggings, .ref q_t_leapStrings_lesserSums, .int t_leapStrings_size, .int t_leapStrings_boxesRead])), (q_t_leapStrings_lengths, .inl (cI, 240, .inl t_leapStrings_lengths)), (q_t_leapStrings_riggings, .inl (cI, 240, .inl t_leapStrings_riggings)), (q_t_leapStrings_lesserSums, .inl (cI, 241, .inl t_leapStrings_lesserSums))] sz) (QcI D [(q_t, .inr (6, [.ref q_t_theRow, .ref q_t_pairs, .ref q_t_latestStrings, .ref q_t_leapStrings, .ref q_t_theRing, .ref q_t_trial, .ref q_t_sheets, .int o_t_moves, .int t_latestFinding])), (q_t_theRow, .inr (3, [.ref q_t_theRow_boxes, .ref q_t_theRow_made])), (q_t_theRow_boxes, .inl (cI, 240, .inl o_t_theRow_boxes)), (q_t_theRow_made, .inl (cI, 240, .inl o_t_theRow_made)), (q_t_leapStrings, .inr (5, [.ref q_t_leapStrings_lengths, .ref q_t_leapStrings_riggings, .ref q_t_leapStrings_lesserSums, .int o_t_leapStrings_size, .int o_t_leapStrings_boxesRead])), (q_t_leapStrings_lengths, .inl (cI, 240, .inl o_t_leapStrings_lengths)), (q_t_leapStrings_riggings, .inl (cI, 240, .inl o_t_leapStrings_riggings)), (q_t_leapStrings_lesserSums, .inl (cI, 241, .inl o_t_leapStrings_lesserSums))] (va_A [(q_t, .inr (6, [.ref q_t_theRow, .ref q_t_pairs, .ref q_t_latestStrings, .ref q_t_leapStrings, .ref q_t_theRing, .ref q_t_trial, .ref q_t_sheets, .int t_moves, .int t_latestFinding])), (q_t_theRow, .inr (3, [.ref q_t_theRow_boxes, .ref q_t_theRow_made])), (q_t_theRow_boxes, .inl (cI, 240, .inl t_theRow_boxes)), (q_t_theRow_made, .inl (cI, 240, .inl t_theRow_made)), (q_t_leapStrings, .inr (5, [.ref q_t_leapStrings_lengths, .ref q_t_leapStrings_riggings, .ref q_t_leapStrings_lesserSums, .int t_leapStrings_size, .int t_leapStrings_boxesRead])), (q_t_leapStrings_lengths, .inl (cI, 240, .inl t_leapStrings_lengths)), (q_t_leapStrings_riggings, .inl (cI, 240, .inl t_leapStrings_riggings)), (q_t_leapStrings_lesserSums, .inl (cI, 241, .inl t_leapStrings_lesserSums))] sz) r) 0 0 (va_A [(q_t, .inr (6, [.ref q_t_theRow, .ref q_t_pairs, .ref q_t_latestStrings, .ref q_t_leapStrings, .ref q_t_theRing, .ref q_t_trial, .ref q_t_sheets, .int t_moves, .int t_latestFinding])), (q_t_theRow, .inr (3, [.ref q_t_theRow_boxes, .ref q_t_theRow_made])), (q_t_theRow_boxes, .inl (cI, 240, .inl t_theRow_boxes)), (q_t_theRow_made, .inl (cI, 240, .inl t_theRow_made)), (q_t_leapStrings, .inr (5, [.ref q_t_leapStrings_lengths, .ref q_t_leapStrings_riggings, .ref q_t_leapStrings_lesserSums, .int t_leapStrings_size, .int t_leapStrings_boxesRead])), (q_t_leapStrings_lengths, .inl (cI, 240, .inl t_leapStrings_lengths)), (q_t_leapStrings_riggings, .inl (cI, 240, .inl t_leapStrings_riggings)), (q_t_leapStrings_lesserSums, .inl (cI, 241, .inl t_leapStrings_lesserSums))] sz) := by
  refine ctr (cc := cX6_leap) (maxL := 3) (ret := (some .int)) (by decide) rfl (Nat.le_of_ble_eq_true rfl) ?_
  intro p e s m below meth c S hr hlk hnm hK hN hsz hA hw ls hl
  generalize va_A [(q_t, .inr (6, [.ref q_t_theRow, .ref q_t_pairs, .ref q_t_latestStrings, .ref q_t_leapStrings, .ref q_t_theRing, .ref q_t_trial, .ref q_t_sheets, .int t_moves, .int t_latestFinding])), (q_t_theRow, .inr (3, [.ref q_t_theRow_boxes, .ref q_t_theRow_made])), (q_t_theRow_boxes, .inl (cI, 240, .inl t_theRow_boxes)), (q_t_theRow_made, .inl (cI, 240, .inl t_theRow_made)), (q_t_leapStrings, .inr (5, [.ref q_t_leapStrings_lengths, .ref q_t_leapStrings_riggings, .ref q_t_leapStrings_lesserSums, .int t_leapStrings_size, .int t_leapStrings_boxesRead])), (q_t_leapStrings_lengths, .inl (cI, 240, .inl t_leapStrings_lengths)), (q_t_leapStrings_riggings, .inl (cI, 240, .inl t_leapStrings_riggings)), (q_t_leapStrings_lesserSums, .inl (cI, 241, .inl t_leapStrings_lesserSums))] sz = A at hA hw ⊢
  have S : CallFix p m c cX6_leap 3 s ([.ref q_t, .int p1, .int p2] : List Value).toArray wsX6_leap RX6 := S
  have hx := S.1
  have hb := S.2.1
  have hts := S.2.2.2.2
  have hl : lv_has ls 3 [(0, .ref q_t), (1, .int p1), (2, .int p2)] := hl
  have hinX6 : ∀ w ∈ u_ws RX6 TX6 9, w ∈ wsX6_leap := by decide +kernel
  have k10 : Cond.fieldLink RX6 10 "BallBoxes" "theRow" "LBallBoxes$Row;" ∈ wsX6_leap := by decide +kernel
  have k30 : Cond.fieldLink RX6 30 "BallBoxes" "leapStrings" "LBallBoxes$Strings;" ∈ wsX6_leap := by decide +kernel
  have k134 : Cond.fieldLink RX6 134 "BallBoxes" "moves" "I" ∈ wsX6_leap := by decide +kernel
  unfold f_X6_leap at hf
  refine lv_iload_n hx hb dX6_leap_0 rfl (lv_at hl 1 rfl) ?_
  obtain ⟨r1, h2, hf⟩ := bd1_some hf
  refine cl_i (wr := [(q_t, .inr (6, [.ref q_t_theRow, .ref q_t_pairs, .ref q_t_latestStrings, .ref q_t_leapStrings, .ref q_t_theRing, .ref q_t_trial, .ref q_t_sheets, .int t_moves, .int t_latestFinding])), (q_t_theRow, .inr (3, [.ref q_t_theRow_boxes, .ref q_t_theRow_made])), (q_t_theRow_boxes, .inl (cI, 240, .inl t_theRow_boxes)), (q_t_theRow_made, .inl (cI, 240, .inl t_theRow_made)), (q_t_leapStrings, .inr (5, [.ref q_t_leapStrings_lengths, .ref q_t_leapStrings_riggings, .ref q_t_leapStrings_lesserSums, .int t_leapStrings_size, .int t_leapStrings_boxesRead])), (q_t_leapStrings_lengths, .inl (cI, 240, .inl t_leapStrings_lengths)), (q_t_leapStrings_riggings, .inl (cI, 240, .inl t_leapStrings_riggings)), (q_t_leapStrings_lesserSums, .inl (cI, 241, .inl t_leapStrings_lesserSums))]) (ws' := [(q_t, .inr (6, [.ref q_t_theRow, .ref q_t_pairs, .ref q_t_latestStrings, .ref q_t_leapStrings, .ref q_t_theRing, .ref q_t_trial, .ref q_t_sheets, .int t_moves, .int t_latestFinding])), (q_t_theRow, .inr (3, [.ref q_t_theRow_boxes, .ref q_t_theRow_made])), (q_t_theRow_boxes, .inl (cI, 240, .inl t_theRow_boxes)), (q_t_theRow_made, .inl (cI, 240, .inl t_theRow_made)), (q_t_leapStrings, .inr (5, [.ref q_t_leapStrings_lengths, .ref q_t_leapStrings_riggings, .ref q_t_leapStrings_lesserSums, .int t_leapStrings_size, .int t_leapStrings_boxesRead])), (q_t_leapStrings_lengths, .inl (cI, 240, .inl t_leapStrings_lengths)), (q_t_leapStrings_riggings, .inl (cI, 240, .inl t_leapStrings_riggings)), (q_t_leapStrings_lesserSums, .inl (cI, 241, .inl t_leapStrings_lesserSums))]) hA hw [] [0, 1, 2, 3, 4, 5, 6, 7] [0, 1, 2, 3, 4, 5, 6, 7] rfl rfl rfl (by decide) rfl rfl (va_runS (As := [.int p1]) (rest := []) S (c_X6_isRoom l D cI cZ cJ cO _ N p1 r1 h2) (va_cwS 1 hts gX6_leap_X6_isRoom rfl rfl rfl (by decide +kernel) ⟨Nat.le_of_ble_eq_true rfl, Nat.le_of_ble_eq_true rfl⟩) (pre_S hK hN hw [] rfl rfl) rfl rfl hl.1 rfl (lv_room (Nat.le_of_ble_eq_true rfl)) dX6_leap_1 ⟨Nat.zero_le _, Nat.zero_le _⟩) (fun H locs hw => ?_)
  refine lv_if_eq (tgt := 21) hx hb dX6_leap_4 (by decide) (fun c3 => ?_) (fun c3 => ?_)
  · have hf := (if_pos c3).symm.trans hf
    refine lv_bipush (v := (-2 : Int32)) hx hb dX6_leap_21 (by decide) ?_
    obtain ⟨rfl, rfl, rfl, rfl, rfl, rfl, rfl, rfl, rfl⟩ := pr9 (Option.some.inj hf)
    exact rt_i S hr hlk hw dX6_leap_23
  · have hf := (if_neg c3).symm.trans hf
    refine lv_iload_n hx hb dX6_leap_7 rfl (lv_at hl 2 rfl) ?_
    refine lv_sipush (v := (-1000 : Int32)) hx hb dX6_leap_8 (by decide) ?_
    refine lv_icmp_lt (tgt := 21) hx hb dX6_leap_11 (by decide) (fun c4 => ?_) (fun c4 => ?_)
    · have hf := (if_pos c4).symm.trans hf
      refine lv_bipush (v := (-2 : Int32)) hx hb dX6_leap_21 (by decide) ?_
      obtain ⟨rfl, rfl, rfl, rfl, rfl, rfl, rfl, rfl, rfl⟩ := pr9 (Option.some.inj hf)
      exact rt_i S hr hlk hw dX6_leap_23
    · have hf := (if_neg c4).symm.trans hf
      refine lv_iload_n hx hb dX6_leap_14 rfl (lv_at hl 2 rfl) ?_
      refine lv_sipush (v := (1000 : Int32)) hx hb dX6_leap_15 (by decide) ?_
      refine lv_icmp_le (tgt := 24) hx hb dX6_leap_18 (by decide) (fun c5 => ?_) (fun c5 => ?_)
      · have hf := (if_pos c5).symm.trans hf
        refine lv_aload_n hx hb dX6_leap_24 rfl (lv_at hl 0 rfl) ?_
        refine g_get (ci := 6) (C := RX6) (T := TX6) (N := 9) S hinX6 hK hw 0 3 k30 dX6_leap_25 rfl rfl (by decide) rfl ?_
        refine lv_aload_n hx hb dX6_leap_28 rfl (lv_at hl 0 rfl) ?_
        refine g_get (ci := 6) (C := RX6) (T := TX6) (N := 9) S hinX6 hK hw 0 0 k10 dX6_leap_29 rfl rfl (by decide) rfl ?_
        refine lv_sipush (v := (240 : Int32)) hx hb dX6_leap_32 (by decide) ?_
        obtain ⟨u6, u7, u8, u9, u10, h11, hf⟩ := bd5_some hf
        refine cl_v (wr := [(q_t, .inr (6, [.ref q_t_theRow, .ref q_t_pairs, .ref q_t_latestStrings, .ref q_t_leapStrings, .ref q_t_theRing, .ref q_t_trial, .ref q_t_sheets, .int t_moves, .int t_latestFinding])), (q_t_theRow_made, .inl (cI, 240, .inl t_theRow_made))]) (ws' := [(q_t, .inr (6, [.ref q_t_theRow, .ref q_t_pairs, .ref q_t_latestStrings, .ref q_t_leapStrings, .ref q_t_theRing, .ref q_t_trial, .ref q_t_sheets, .int t_moves, .int t_latestFinding])), (q_t_theRow, .inr (3, [.ref q_t_theRow_boxes, .ref q_t_theRow_made])), (q_t_theRow_boxes, .inl (cI, 240, .inl t_theRow_boxes)), (q_t_theRow_made, .inl (cI, 240, .inl t_theRow_made)), (q_t_leapStrings, .inr (5, [.ref q_t_leapStrings_lengths, .ref q_t_leapStrings_riggings, .ref q_t_leapStrings_lesserSums, .int u6, .int u7])), (q_t_leapStrings_lengths, .inl (cI, 240, .inl u8)), (q_t_leapStrings_riggings, .inl (cI, 240, .inl u9)), (q_t_leapStrings_lesserSums, .inl (cI, 241, .inl u10))]) hA hw [4, 5, 6, 7, 1, 2] [0, 3] [0, 6, 7, 1, 2, 3, 4, 5] rfl rfl rfl (by decide) rfl rfl (va_runV (As := [.ref q_t_theRow, .int (240 : Int32)]) (rest := []) S (c_X5_readFrom l D cI cZ cJ cO _ q_t_leapStrings q_t_leapStrings_lengths q_t_leapStrings_riggings q_t_leapStrings_lesserSums q_t_theRow q_t_theRow_boxes q_t_theRow_made N (240 : Int32) t_leapStrings_size t_leapStrings_boxesRead t_leapStrings_lengths t_leapStrings_riggings t_leapStrings_lesserSums t_theRow_boxes u6 u7 u8 u9 u10 h11) (cwV 2 hts gX6_leap_X5_readFrom rfl rfl rfl (by decide +kernel) ⟨Nat.le_of_ble_eq_true rfl, Nat.le_of_ble_eq_true rfl⟩) (pre_V hK hN hw [4, 5, 6, 7, 1, 2] rfl rfl (C := RX5) (T := TX5) (N := 5) (ci := 5) (q0 := 0) rfl rfl) rfl rfl hl.1 rfl (lv_room (Nat.le_of_ble_eq_true rfl)) dX6_leap_35 ⟨Nat.zero_le _, Nat.zero_le _⟩) (fun H locs hw => ?_)
        refine lv_aload_n hx hb dX6_leap_38 rfl (lv_at hl 0 rfl) ?_
        refine g_get (ci := 6) (C := RX6) (T := TX6) (N := 9) S hinX6 hK hw 0 3 k30 dX6_leap_39 rfl rfl (by decide) rfl ?_
        refine lv_iload_n hx hb dX6_leap_42 rfl (lv_at hl 1 rfl) ?_
        refine lv_iload_n hx hb dX6_leap_43 rfl (lv_at hl 2 rfl) ?_
        obtain ⟨u12, h13, hf⟩ := bd1_some hf
        refine cl_v (wr := [(q_t, .inr (6, [.ref q_t_theRow, .ref q_t_pairs, .ref q_t_latestStrings, .ref q_t_leapStrings, .ref q_t_theRing, .ref q_t_trial, .ref q_t_sheets, .int t_moves, .int t_latestFinding])), (q_t_theRow, .inr (3, [.ref q_t_theRow_boxes, .ref q_t_theRow_made])), (q_t_theRow_boxes, .inl (cI, 240, .inl t_theRow_boxes)), (q_t_theRow_made, .inl (cI, 240, .inl t_theRow_made)), (q_t_leapStrings_lesserSums, .inl (cI, 241, .inl u10))]) (ws' := [(q_t, .inr (6, [.ref q_t_theRow, .ref q_t_pairs, .ref q_t_latestStrings, .ref q_t_leapStrings, .ref q_t_theRing, .ref q_t_trial, .ref q_t_sheets, .int t_moves, .int t_latestFinding])), (q_t_theRow, .inr (3, [.ref q_t_theRow_boxes, .ref q_t_theRow_made])), (q_t_theRow_boxes, .inl (cI, 240, .inl t_theRow_boxes)), (q_t_theRow_made, .inl (cI, 240, .inl t_theRow_made)), (q_t_leapStrings, .inr (5, [.ref q_t_leapStrings_lengths, .ref q_t_leapStrings_riggings, .ref q_t_leapStrings_lesserSums, .int u6, .int u7])), (q_t_leapStrings_lengths, .inl (cI, 240, .inl u8)), (q_t_leapStrings_riggings, .inl (cI, 240, .inl u12)), (q_t_leapStrings_lesserSums, .inl (cI, 241, .inl u10))]) hA hw [4, 5, 6] [0, 1, 2, 3, 7] [0, 1, 2, 3, 5, 6, 7, 4] rfl rfl rfl (by decide) rfl rfl (va_runV (As := [.int p1, .int p2]) (rest := []) S (c_X5_addToRiggings l D cI cZ cJ cO _ q_t_leapStrings q_t_leapStrings_lengths q_t_leapStrings_riggings q_t_leapStrings_lesserSums N p1 p2 u6 u7 u8 u9 u12 h13) (cwV 2 hts gX6_leap_X5_addToRiggings rfl rfl rfl (by decide +kernel) ⟨Nat.le_of_ble_eq_true rfl, Nat.le_of_ble_eq_true rfl⟩) (pre_V hK hN hw [4, 5, 6] rfl rfl (C := RX5) (T := TX5) (N := 5) (ci := 5) (q0 := 0) rfl rfl) rfl rfl hl.1 rfl (lv_room (Nat.le_of_ble_eq_true rfl)) dX6_leap_44 ⟨Nat.zero_le _, Nat.zero_le _⟩) (fun H locs hw => ?_)
        refine lv_aload_n hx hb dX6_leap_47 rfl (lv_at hl 0 rfl) ?_
        refine g_get (ci := 6) (C := RX6) (T := TX6) (N := 9) S hinX6 hK hw 0 3 k30 dX6_leap_48 rfl rfl (by decide) rfl ?_
        refine lv_sipush (v := (240 : Int32)) hx hb dX6_leap_51 (by decide) ?_
        obtain ⟨r14, h15, hf⟩ := bd1_some hf
        refine cl_i (wr := [(q_t, .inr (6, [.ref q_t_theRow, .ref q_t_pairs, .ref q_t_latestStrings, .ref q_t_leapStrings, .ref q_t_theRing, .ref q_t_trial, .ref q_t_sheets, .int t_moves, .int t_latestFinding])), (q_t_theRow, .inr (3, [.ref q_t_theRow_boxes, .ref q_t_theRow_made])), (q_t_theRow_boxes, .inl (cI, 240, .inl t_theRow_boxes)), (q_t_theRow_made, .inl (cI, 240, .inl t_theRow_made))]) (ws' := [(q_t, .inr (6, [.ref q_t_theRow, .ref q_t_pairs, .ref q_t_latestStrings, .ref q_t_leapStrings, .ref q_t_theRing, .ref q_t_trial, .ref q_t_sheets, .int t_moves, .int t_latestFinding])), (q_t_theRow, .inr (3, [.ref q_t_theRow_boxes, .ref q_t_theRow_made])), (q_t_theRow_boxes, .inl (cI, 240, .inl t_theRow_boxes)), (q_t_theRow_made, .inl (cI, 240, .inl t_theRow_made)), (q_t_leapStrings, .inr (5, [.ref q_t_leapStrings_lengths, .ref q_t_leapStrings_riggings, .ref q_t_leapStrings_lesserSums, .int u6, .int u7])), (q_t_leapStrings_lengths, .inl (cI, 240, .inl u8)), (q_t_leapStrings_riggings, .inl (cI, 240, .inl u12)), (q_t_leapStrings_lesserSums, .inl (cI, 241, .inl u10))]) hA hw [4, 5, 6, 7] [0, 1, 2, 3] [0, 1, 2, 3, 4, 5, 6, 7] rfl rfl rfl (by decide) rfl rfl (va_runV (As := [.int (240 : Int32)]) (rest := []) S (c_X5_haveRoomBehind l D cI cZ cJ cO _ q_t_leapStrings q_t_leapStrings_lengths q_t_leapStrings_riggings q_t_leapStrings_lesserSums N (240 : Int32) u6 u7 u8 u12 u10 r14 h15) (cwV 1 hts gX6_leap_X5_haveRoomBehind rfl rfl rfl (by decide +kernel) ⟨Nat.le_of_ble_eq_true rfl, Nat.le_of_ble_eq_true rfl⟩) (pre_V hK hN hw [4, 5, 6, 7] rfl rfl (C := RX5) (T := TX5) (N := 5) (ci := 5) (q0 := 0) rfl rfl) rfl rfl hl.1 rfl (lv_room (Nat.le_of_ble_eq_true rfl)) dX6_leap_54 ⟨Nat.zero_le _, Nat.zero_le _⟩) (fun H locs hw => ?_)
        refine lv_if_eq (tgt := 74) hx hb dX6_leap_57 (by decide) (fun c16 => ?_) (fun c16 => ?_)
        · have hf := (if_pos c16).symm.trans hf
          refine lv_bipush (v := (-4 : Int32)) hx hb dX6_leap_74 (by decide) ?_
          obtain ⟨rfl, rfl, rfl, rfl, rfl, rfl, rfl, rfl, rfl⟩ := pr9 (Option.some.inj hf)
          exact rt_i S hr hlk hw dX6_leap_76
        · have hf := (if_neg c16).symm.trans hf
          refine lv_aload_n hx hb dX6_leap_60 rfl (lv_at hl 0 rfl) ?_
          refine g_get (ci := 6) (C := RX6) (T := TX6) (N := 9) S hinX6 hK hw 0 3 k30 dX6_leap_61 rfl rfl (by decide) rfl ?_
          refine lv_aload_n hx hb dX6_leap_64 rfl (lv_at hl 0 rfl) ?_
          refine g_get (ci := 6) (C := RX6) (T := TX6) (N := 9) S hinX6 hK hw 0 0 k10 dX6_leap_65 rfl rfl (by decide) rfl ?_
          obtain ⟨r17, u18, u19, u20, u21, u22, h23, hf⟩ := bd6_some hf
          refine cl_i (wr := [(q_t, .inr (6, [.ref q_t_theRow, .ref q_t_pairs, .ref q_t_latestStrings, .ref q_t_leapStrings, .ref q_t_theRing, .ref q_t_trial, .ref q_t_sheets, .int t_moves, .int t_latestFinding])), (q_t_theRow_boxes, .inl (cI, 240, .inl t_theRow_boxes))]) (ws' := [(q_t, .inr (6, [.ref q_t_theRow, .ref q_t_pairs, .ref q_t_latestStrings, .ref q_t_leapStrings, .ref q_t_theRing, .ref q_t_trial, .ref q_t_sheets, .int t_moves, .int t_latestFinding])), (q_t_theRow, .inr (3, [.ref q_t_theRow_boxes, .ref q_t_theRow_made])), (q_t_theRow_boxes, .inl (cI, 240, .inl t_theRow_boxes)), (q_t_theRow_made, .inl (cI, 240, .inl u22)), (q_t_leapStrings, .inr (5, [.ref q_t_leapStrings_lengths, .ref q_t_leapStrings_riggings, .ref q_t_leapStrings_lesserSums, .int u18, .int u7])), (q_t_leapStrings_lengths, .inl (cI, 240, .inl u19)), (q_t_leapStrings_riggings, .inl (cI, 240, .inl u20)), (q_t_leapStrings_lesserSums, .inl (cI, 241, .inl u21))]) hA hw [4, 5, 6, 7, 1, 3] [0, 2] [0, 6, 1, 7, 2, 3, 4, 5] rfl rfl rfl (by decide) rfl rfl (va_runV (As := [.ref q_t_theRow]) (rest := []) S (c_X5_makeInto l D cI cZ cJ cO _ q_t_leapStrings q_t_leapStrings_lengths q_t_leapStrings_riggings q_t_leapStrings_lesserSums q_t_theRow q_t_theRow_boxes q_t_theRow_made N u6 u7 u8 u12 u10 t_theRow_made r17 u18 u19 u20 u21 u22 h23) (cwV 1 hts gX6_leap_X5_makeInto rfl rfl rfl (by decide +kernel) ⟨Nat.le_of_ble_eq_true rfl, Nat.le_of_ble_eq_true rfl⟩) (pre_V hK hN hw [4, 5, 6, 7, 1, 3] rfl rfl (C := RX5) (T := TX5) (N := 5) (ci := 5) (q0 := 0) rfl rfl) rfl rfl hl.1 rfl (lv_room (Nat.le_of_ble_eq_true rfl)) dX6_leap_68 ⟨Nat.zero_le _, Nat.zero_le _⟩) (fun H locs hw => ?_)
          refine lv_if_ne (tgt := 77) hx hb dX6_leap_71 (by decide) (fun c24 => ?_) (fun c24 => ?_)
          · have hf := (if_neg c24).symm.trans hf
            refine lv_aload_n hx hb dX6_leap_77 rfl (lv_at hl 0 rfl) ?_
            refine lv_dup hx hb dX6_leap_78 rfl ?_
            refine g_get (ci := 6) (C := RX6) (T := TX6) (N := 9) S hinX6 hK hw 0 7 k134 dX6_leap_79 rfl rfl (by decide) rfl ?_
            refine lv_iconst (v := (1 : Int32)) hx hb dX6_leap_82 (by decide) ?_
            refine lv_iadd hx hb dX6_leap_83 ?_
            refine g_put (ci := 6) (C := RX6) (T := TX6) (N := 9) (ws' := [(q_t, .inr (6, [.ref q_t_theRow, .ref q_t_pairs, .ref q_t_latestStrings, .ref q_t_leapStrings, .ref q_t_theRing, .ref q_t_trial, .ref q_t_sheets, .int (t_moves + (1 : Int32)), .int t_latestFinding])), (q_t_theRow, .inr (3, [.ref q_t_theRow_boxes, .ref q_t_theRow_made])), (q_t_theRow_boxes, .inl (cI, 240, .inl t_theRow_boxes)), (q_t_theRow_made, .inl (cI, 240, .inl u22)), (q_t_leapStrings, .inr (5, [.ref q_t_leapStrings_lengths, .ref q_t_leapStrings_riggings, .ref q_t_leapStrings_lesserSums, .int u18, .int u7])), (q_t_leapStrings_lengths, .inl (cI, 240, .inl u19)), (q_t_leapStrings_riggings, .inl (cI, 240, .inl u20)), (q_t_leapStrings_lesserSums, .inl (cI, 241, .inl u21))]) S hinX6 tyX6 tyX6_ok nmX6 hK hw 0 7 k134 dX6_leap_84 rfl rfl (by decide) rfl rfl rfl (Nat.le_of_ble_eq_true rfl) rfl (fun H locs hw => ?_)
            refine lv_aload_n hx hb dX6_leap_87 rfl (lv_at hl 0 rfl) ?_
            refine g_get (ci := 6) (C := RX6) (T := TX6) (N := 9) S hinX6 hK hw 0 0 k10 dX6_leap_88 rfl rfl (by decide) rfl ?_
            obtain ⟨r25, u26, h27, hf⟩ := bd2_some hf
            refine cl_i (wr := [(q_t, .inr (6, [.ref q_t_theRow, .ref q_t_pairs, .ref q_t_latestStrings, .ref q_t_leapStrings, .ref q_t_theRing, .ref q_t_trial, .ref q_t_sheets, .int (t_moves + (1 : Int32)), .int t_latestFinding])), (q_t_leapStrings, .inr (5, [.ref q_t_leapStrings_lengths, .ref q_t_leapStrings_riggings, .ref q_t_leapStrings_lesserSums, .int u18, .int u7])), (q_t_leapStrings_lengths, .inl (cI, 240, .inl u19)), (q_t_leapStrings_riggings, .inl (cI, 240, .inl u20)), (q_t_leapStrings_lesserSums, .inl (cI, 241, .inl u21))]) (ws' := [(q_t, .inr (6, [.ref q_t_theRow, .ref q_t_pairs, .ref q_t_latestStrings, .ref q_t_leapStrings, .ref q_t_theRing, .ref q_t_trial, .ref q_t_sheets, .int (t_moves + (1 : Int32)), .int t_latestFinding])), (q_t_theRow, .inr (3, [.ref q_t_theRow_boxes, .ref q_t_theRow_made])), (q_t_theRow_boxes, .inl (cI, 240, .inl u26)), (q_t_theRow_made, .inl (cI, 240, .inl u22)), (q_t_leapStrings, .inr (5, [.ref q_t_leapStrings_lengths, .ref q_t_leapStrings_riggings, .ref q_t_leapStrings_lesserSums, .int u18, .int u7])), (q_t_leapStrings_lengths, .inl (cI, 240, .inl u19)), (q_t_leapStrings_riggings, .inl (cI, 240, .inl u20)), (q_t_leapStrings_lesserSums, .inl (cI, 241, .inl u21))]) hA hw [1, 2, 3] [0, 4, 5, 6, 7] [0, 5, 6, 7, 1, 2, 3, 4] rfl rfl rfl (by decide) rfl rfl (va_runV (As := []) (rest := []) S (c_X3_becomeMade l D cI cZ cJ cO _ q_t_theRow q_t_theRow_boxes q_t_theRow_made N t_theRow_boxes u22 r25 u26 h27) (cwV 0 hts gX6_leap_X3_becomeMade rfl rfl rfl (by decide +kernel) ⟨Nat.le_of_ble_eq_true rfl, Nat.le_of_ble_eq_true rfl⟩) (pre_V hK hN hw [1, 2, 3] rfl rfl (C := RX3) (T := TX3) (N := 2) (ci := 3) (q0 := 0) rfl rfl) rfl rfl hl.1 rfl (lv_room (Nat.le_of_ble_eq_true rfl)) dX6_leap_91 ⟨Nat.zero_le _, Nat.zero_le _⟩) (fun H locs hw => ?_)
            obtain ⟨rfl, rfl, rfl, rfl, rfl, rfl, rfl, rfl, rfl⟩ := pr9 (Option.some.inj hf)
            exact rt_i S hr hlk hw dX6_leap_94
          · have hf := (if_pos c24).symm.trans hf
            refine lv_bipush (v := (-4 : Int32)) hx hb dX6_leap_74 (by decide) ?_
            obtain ⟨rfl, rfl, rfl, rfl, rfl, rfl, rfl, rfl, rfl⟩ := pr9 (Option.some.inj hf)
            exact rt_i S hr hlk hw dX6_leap_76
      · have hf := (if_neg c5).symm.trans hf
        refine lv_bipush (v := (-2 : Int32)) hx hb dX6_leap_21 (by decide) ?_
        obtain ⟨rfl, rfl, rfl, rfl, rfl, rfl, rfl, rfl, rfl⟩ := pr9 (Option.some.inj hf)
        exact rt_i S hr hlk hw dX6_leap_23

def f_J13_bitCount_95d88 (_ : Nat) (p0 : Int64)  : Option (Int32) :=
  (some (((((((((p0 - ((ushL p0 (1 : Int32)) &&& (6148914691236517205 : Int64))) &&& (3689348814741910323 : Int64)) + ((ushL (p0 - ((ushL p0 (1 : Int32)) &&& (6148914691236517205 : Int64))) (2 : Int32)) &&& (3689348814741910323 : Int64))) + (ushL (((p0 - ((ushL p0 (1 : Int32)) &&& (6148914691236517205 : Int64))) &&& (3689348814741910323 : Int64)) + ((ushL (p0 - ((ushL p0 (1 : Int32)) &&& (6148914691236517205 : Int64))) (2 : Int32)) &&& (3689348814741910323 : Int64))) (4 : Int32))) &&& (1085102592571150095 : Int64)) + (ushL (((((p0 - ((ushL p0 (1 : Int32)) &&& (6148914691236517205 : Int64))) &&& (3689348814741910323 : Int64)) + ((ushL (p0 - ((ushL p0 (1 : Int32)) &&& (6148914691236517205 : Int64))) (2 : Int32)) &&& (3689348814741910323 : Int64))) + (ushL (((p0 - ((ushL p0 (1 : Int32)) &&& (6148914691236517205 : Int64))) &&& (3689348814741910323 : Int64)) + ((ushL (p0 - ((ushL p0 (1 : Int32)) &&& (6148914691236517205 : Int64))) (2 : Int32)) &&& (3689348814741910323 : Int64))) (4 : Int32))) &&& (1085102592571150095 : Int64)) (8 : Int32))) + (ushL ((((((p0 - ((ushL p0 (1 : Int32)) &&& (6148914691236517205 : Int64))) &&& (3689348814741910323 : Int64)) + ((ushL (p0 - ((ushL p0 (1 : Int32)) &&& (6148914691236517205 : Int64))) (2 : Int32)) &&& (3689348814741910323 : Int64))) + (ushL (((p0 - ((ushL p0 (1 : Int32)) &&& (6148914691236517205 : Int64))) &&& (3689348814741910323 : Int64)) + ((ushL (p0 - ((ushL p0 (1 : Int32)) &&& (6148914691236517205 : Int64))) (2 : Int32)) &&& (3689348814741910323 : Int64))) (4 : Int32))) &&& (1085102592571150095 : Int64)) + (ushL (((((p0 - ((ushL p0 (1 : Int32)) &&& (6148914691236517205 : Int64))) &&& (3689348814741910323 : Int64)) + ((ushL (p0 - ((ushL p0 (1 : Int32)) &&& (6148914691236517205 : Int64))) (2 : Int32)) &&& (3689348814741910323 : Int64))) + (ushL (((p0 - ((ushL p0 (1 : Int32)) &&& (6148914691236517205 : Int64))) &&& (3689348814741910323 : Int64)) + ((ushL (p0 - ((ushL p0 (1 : Int32)) &&& (6148914691236517205 : Int64))) (2 : Int32)) &&& (3689348814741910323 : Int64))) (4 : Int32))) &&& (1085102592571150095 : Int64)) (8 : Int32))) (16 : Int32))) + (ushL (((((((p0 - ((ushL p0 (1 : Int32)) &&& (6148914691236517205 : Int64))) &&& (3689348814741910323 : Int64)) + ((ushL (p0 - ((ushL p0 (1 : Int32)) &&& (6148914691236517205 : Int64))) (2 : Int32)) &&& (3689348814741910323 : Int64))) + (ushL (((p0 - ((ushL p0 (1 : Int32)) &&& (6148914691236517205 : Int64))) &&& (3689348814741910323 : Int64)) + ((ushL (p0 - ((ushL p0 (1 : Int32)) &&& (6148914691236517205 : Int64))) (2 : Int32)) &&& (3689348814741910323 : Int64))) (4 : Int32))) &&& (1085102592571150095 : Int64)) + (ushL (((((p0 - ((ushL p0 (1 : Int32)) &&& (6148914691236517205 : Int64))) &&& (3689348814741910323 : Int64)) + ((ushL (p0 - ((ushL p0 (1 : Int32)) &&& (6148914691236517205 : Int64))) (2 : Int32)) &&& (3689348814741910323 : Int64))) + (ushL (((p0 - ((ushL p0 (1 : Int32)) &&& (6148914691236517205 : Int64))) &&& (3689348814741910323 : Int64)) + ((ushL (p0 - ((ushL p0 (1 : Int32)) &&& (6148914691236517205 : Int64))) (2 : Int32)) &&& (3689348814741910323 : Int64))) (4 : Int32))) &&& (1085102592571150095 : Int64)) (8 : Int32))) + (ushL ((((((p0 - ((ushL p0 (1 : Int32)) &&& (6148914691236517205 : Int64))) &&& (3689348814741910323 : Int64)) + ((ushL (p0 - ((ushL p0 (1 : Int32)) &&& (6148914691236517205 : Int64))) (2 : Int32)) &&& (3689348814741910323 : Int64))) + (ushL (((p0 - ((ushL p0 (1 : Int32)) &&& (6148914691236517205 : Int64))) &&& (3689348814741910323 : Int64)) + ((ushL (p0 - ((ushL p0 (1 : Int32)) &&& (6148914691236517205 : Int64))) (2 : Int32)) &&& (3689348814741910323 : Int64))) (4 : Int32))) &&& (1085102592571150095 : Int64)) + (ushL (((((p0 - ((ushL p0 (1 : Int32)) &&& (6148914691236517205 : Int64))) &&& (3689348814741910323 : Int64)) + ((ushL (p0 - ((ushL p0 (1 : Int32)) &&& (6148914691236517205 : Int64))) (2 : Int32)) &&& (3689348814741910323 : Int64))) + (ushL (((p0 - ((ushL p0 (1 : Int32)) &&& (6148914691236517205 : Int64))) &&& (3689348814741910323 : Int64)) + ((ushL (p0 - ((ushL p0 (1 : Int32)) &&& (6148914691236517205 : Int64))) (2 : Int32)) &&& (3689348814741910323 : Int64))) (4 : Int32))) &&& (1085102592571150095 : Int64)) (8 : Int32))) (16 : Int32))) (32 : Int32))).toInt32 &&& (127 : Int32)))

set_option maxHeartbeats 4000000 in
set_option maxRecDepth 100000 in
theorem c_J13_bitCount_95d88 (l : Launch) (D : va_G) (cI cZ cJ cO : ClassId) (sz : Nat) (N : Nat) (p0 : Int64)  (r : Int32) (hf : f_J13_bitCount_95d88 N p0 = some r) : Met l yJ13_bitCount_95d88 wsJ13_bitCount_95d88 ({ frames := 0, cells := 0, slots := 0, locals := 0 }) (PreC D (TY cI cZ cJ cO) [.long p0] [] sz) (QcI D [] (va_A [] sz) r) 0 0 (va_A [] sz) := by
  refine ctr (cc := cJ13_bitCount_95d88) (maxL := 2) (ret := (some .int)) (by decide) rfl (Nat.le_of_ble_eq_true rfl) ?_
  intro p e s m below meth c S hr hlk hnm hK hN hsz hA hw ls hl
  generalize va_A [] sz = A at hA hw ⊢
  have S : CallFix p m c cJ13_bitCount_95d88 2 s ([.long p0] : List Value).toArray wsJ13_bitCount_95d88 RJ13 := S
  have hx := S.1
  have hb := S.2.1
  have hts := S.2.2.2.2
  have hl : lv_has ls 2 [(0, .long p0)] := hl
  unfold f_J13_bitCount_95d88 at hf
  refine lv_lload_n hx hb dJ13_bitCount_95d88_0 rfl (lv_at hl 0 rfl) ?_
  refine lv_lload_n hx hb dJ13_bitCount_95d88_1 rfl (lv_at hl 0 rfl) ?_
  refine lv_iconst (v := (1 : Int32)) hx hb dJ13_bitCount_95d88_2 (by decide) ?_
  refine lv_lushr (v := (ushL p0 (1 : Int32))) hx hb dJ13_bitCount_95d88_3 rfl ?_
  refine lv_ldc2 (v := (6148914691236517205 : Int64)) hx hb S.2.2.2.1 (hts (.constantLong RJ13 314 (6148914691236517205)) (by decide +kernel)) dJ13_bitCount_95d88_4 ?_
  refine lv_land hx hb dJ13_bitCount_95d88_7 ?_
  refine lv_lsub hx hb dJ13_bitCount_95d88_8 ?_
  refine lv_lstore_n (lv' := [(0, .long (p0 - ((ushL p0 (1 : Int32)) &&& (6148914691236517205 : Int64))))]) hx hb dJ13_bitCount_95d88_9 rfl hl (by decide) rfl (fun ls hl => ?_)
  refine lv_lload_n hx hb dJ13_bitCount_95d88_10 rfl (lv_at hl 0 rfl) ?_
  refine lv_ldc2 (v := (3689348814741910323 : Int64)) hx hb S.2.2.2.1 (hts (.constantLong RJ13 316 (3689348814741910323)) (by decide +kernel)) dJ13_bitCount_95d88_11 ?_
  refine lv_land hx hb dJ13_bitCount_95d88_14 ?_
  refine lv_lload_n hx hb dJ13_bitCount_95d88_15 rfl (lv_at hl 0 rfl) ?_
  refine lv_iconst (v := (2 : Int32)) hx hb dJ13_bitCount_95d88_16 (by decide) ?_
  refine lv_lushr (v := (ushL (p0 - ((ushL p0 (1 : Int32)) &&& (6148914691236517205 : Int64))) (2 : Int32))) hx hb dJ13_bitCount_95d88_17 rfl ?_
  refine lv_ldc2 (v := (3689348814741910323 : Int64)) hx hb S.2.2.2.1 (hts (.constantLong RJ13 316 (3689348814741910323)) (by decide +kernel)) dJ13_bitCount_95d88_18 ?_
  refine lv_land hx hb dJ13_bitCount_95d88_21 ?_
  refine lv_ladd hx hb dJ13_bitCount_95d88_22 ?_
  refine lv_lstore_n (lv' := [(0, .long (((p0 - ((ushL p0 (1 : Int32)) &&& (6148914691236517205 : Int64))) &&& (3689348814741910323 : Int64)) + ((ushL (p0 - ((ushL p0 (1 : Int32)) &&& (6148914691236517205 : Int64))) (2 : Int32)) &&& (3689348814741910323 : Int64))))]) hx hb dJ13_bitCount_95d88_23 rfl hl (by decide) rfl (fun ls hl => ?_)
  refine lv_lload_n hx hb dJ13_bitCount_95d88_24 rfl (lv_at hl 0 rfl) ?_
  refine lv_lload_n hx hb dJ13_bitCount_95d88_25 rfl (lv_at hl 0 rfl) ?_
  refine lv_iconst (v := (4 : Int32)) hx hb dJ13_bitCount_95d88_26 (by decide) ?_
  refine lv_lushr (v := (ushL (((p0 - ((ushL p0 (1 : Int32)) &&& (6148914691236517205 : Int64))) &&& (3689348814741910323 : Int64)) + ((ushL (p0 - ((ushL p0 (1 : Int32)) &&& (6148914691236517205 : Int64))) (2 : Int32)) &&& (3689348814741910323 : Int64))) (4 : Int32))) hx hb dJ13_bitCount_95d88_27 rfl ?_
  refine lv_ladd hx hb dJ13_bitCount_95d88_28 ?_
  refine lv_ldc2 (v := (1085102592571150095 : Int64)) hx hb S.2.2.2.1 (hts (.constantLong RJ13 318 (1085102592571150095)) (by decide +kernel)) dJ13_bitCount_95d88_29 ?_
  refine lv_land hx hb dJ13_bitCount_95d88_32 ?_
  refine lv_lstore_n (lv' := [(0, .long (((((p0 - ((ushL p0 (1 : Int32)) &&& (6148914691236517205 : Int64))) &&& (3689348814741910323 : Int64)) + ((ushL (p0 - ((ushL p0 (1 : Int32)) &&& (6148914691236517205 : Int64))) (2 : Int32)) &&& (3689348814741910323 : Int64))) + (ushL (((p0 - ((ushL p0 (1 : Int32)) &&& (6148914691236517205 : Int64))) &&& (3689348814741910323 : Int64)) + ((ushL (p0 - ((ushL p0 (1 : Int32)) &&& (6148914691236517205 : Int64))) (2 : Int32)) &&& (3689348814741910323 : Int64))) (4 : Int32))) &&& (1085102592571150095 : Int64)))]) hx hb dJ13_bitCount_95d88_33 rfl hl (by decide) rfl (fun ls hl => ?_)
  refine lv_lload_n hx hb dJ13_bitCount_95d88_34 rfl (lv_at hl 0 rfl) ?_
  refine lv_lload_n hx hb dJ13_bitCount_95d88_35 rfl (lv_at hl 0 rfl) ?_
  refine lv_bipush (v := (8 : Int32)) hx hb dJ13_bitCount_95d88_36 (by decide) ?_
  refine lv_lushr (v := (ushL (((((p0 - ((ushL p0 (1 : Int32)) &&& (6148914691236517205 : Int64))) &&& (3689348814741910323 : Int64)) + ((ushL (p0 - ((ushL p0 (1 : Int32)) &&& (6148914691236517205 : Int64))) (2 : Int32)) &&& (3689348814741910323 : Int64))) + (ushL (((p0 - ((ushL p0 (1 : Int32)) &&& (6148914691236517205 : Int64))) &&& (3689348814741910323 : Int64)) + ((ushL (p0 - ((ushL p0 (1 : Int32)) &&& (6148914691236517205 : Int64))) (2 : Int32)) &&& (3689348814741910323 : Int64))) (4 : Int32))) &&& (1085102592571150095 : Int64)) (8 : Int32))) hx hb dJ13_bitCount_95d88_38 rfl ?_
  refine lv_ladd hx hb dJ13_bitCount_95d88_39 ?_
  refine lv_lstore_n (lv' := [(0, .long ((((((p0 - ((ushL p0 (1 : Int32)) &&& (6148914691236517205 : Int64))) &&& (3689348814741910323 : Int64)) + ((ushL (p0 - ((ushL p0 (1 : Int32)) &&& (6148914691236517205 : Int64))) (2 : Int32)) &&& (3689348814741910323 : Int64))) + (ushL (((p0 - ((ushL p0 (1 : Int32)) &&& (6148914691236517205 : Int64))) &&& (3689348814741910323 : Int64)) + ((ushL (p0 - ((ushL p0 (1 : Int32)) &&& (6148914691236517205 : Int64))) (2 : Int32)) &&& (3689348814741910323 : Int64))) (4 : Int32))) &&& (1085102592571150095 : Int64)) + (ushL (((((p0 - ((ushL p0 (1 : Int32)) &&& (6148914691236517205 : Int64))) &&& (3689348814741910323 : Int64)) + ((ushL (p0 - ((ushL p0 (1 : Int32)) &&& (6148914691236517205 : Int64))) (2 : Int32)) &&& (3689348814741910323 : Int64))) + (ushL (((p0 - ((ushL p0 (1 : Int32)) &&& (6148914691236517205 : Int64))) &&& (3689348814741910323 : Int64)) + ((ushL (p0 - ((ushL p0 (1 : Int32)) &&& (6148914691236517205 : Int64))) (2 : Int32)) &&& (3689348814741910323 : Int64))) (4 : Int32))) &&& (1085102592571150095 : Int64)) (8 : Int32))))]) hx hb dJ13_bitCount_95d88_40 rfl hl (by decide) rfl (fun ls hl => ?_)
  refine lv_lload_n hx hb dJ13_bitCount_95d88_41 rfl (lv_at hl 0 rfl) ?_
  refine lv_lload_n hx hb dJ13_bitCount_95d88_42 rfl (lv_at hl 0 rfl) ?_
  refine lv_bipush (v := (16 : Int32)) hx hb dJ13_bitCount_95d88_43 (by decide) ?_
  refine lv_lushr (v := (ushL ((((((p0 - ((ushL p0 (1 : Int32)) &&& (6148914691236517205 : Int64))) &&& (3689348814741910323 : Int64)) + ((ushL (p0 - ((ushL p0 (1 : Int32)) &&& (6148914691236517205 : Int64))) (2 : Int32)) &&& (3689348814741910323 : Int64))) + (ushL (((p0 - ((ushL p0 (1 : Int32)) &&& (6148914691236517205 : Int64))) &&& (3689348814741910323 : Int64)) + ((ushL (p0 - ((ushL p0 (1 : Int32)) &&& (6148914691236517205 : Int64))) (2 : Int32)) &&& (3689348814741910323 : Int64))) (4 : Int32))) &&& (1085102592571150095 : Int64)) + (ushL (((((p0 - ((ushL p0 (1 : Int32)) &&& (6148914691236517205 : Int64))) &&& (3689348814741910323 : Int64)) + ((ushL (p0 - ((ushL p0 (1 : Int32)) &&& (6148914691236517205 : Int64))) (2 : Int32)) &&& (3689348814741910323 : Int64))) + (ushL (((p0 - ((ushL p0 (1 : Int32)) &&& (6148914691236517205 : Int64))) &&& (3689348814741910323 : Int64)) + ((ushL (p0 - ((ushL p0 (1 : Int32)) &&& (6148914691236517205 : Int64))) (2 : Int32)) &&& (3689348814741910323 : Int64))) (4 : Int32))) &&& (1085102592571150095 : Int64)) (8 : Int32))) (16 : Int32))) hx hb dJ13_bitCount_95d88_45 rfl ?_
  refine lv_ladd hx hb dJ13_bitCount_95d88_46 ?_
  refine lv_lstore_n (lv' := [(0, .long (((((((p0 - ((ushL p0 (1 : Int32)) &&& (6148914691236517205 : Int64))) &&& (3689348814741910323 : Int64)) + ((ushL (p0 - ((ushL p0 (1 : Int32)) &&& (6148914691236517205 : Int64))) (2 : Int32)) &&& (3689348814741910323 : Int64))) + (ushL (((p0 - ((ushL p0 (1 : Int32)) &&& (6148914691236517205 : Int64))) &&& (3689348814741910323 : Int64)) + ((ushL (p0 - ((ushL p0 (1 : Int32)) &&& (6148914691236517205 : Int64))) (2 : Int32)) &&& (3689348814741910323 : Int64))) (4 : Int32))) &&& (1085102592571150095 : Int64)) + (ushL (((((p0 - ((ushL p0 (1 : Int32)) &&& (6148914691236517205 : Int64))) &&& (3689348814741910323 : Int64)) + ((ushL (p0 - ((ushL p0 (1 : Int32)) &&& (6148914691236517205 : Int64))) (2 : Int32)) &&& (3689348814741910323 : Int64))) + (ushL (((p0 - ((ushL p0 (1 : Int32)) &&& (6148914691236517205 : Int64))) &&& (3689348814741910323 : Int64)) + ((ushL (p0 - ((ushL p0 (1 : Int32)) &&& (6148914691236517205 : Int64))) (2 : Int32)) &&& (3689348814741910323 : Int64))) (4 : Int32))) &&& (1085102592571150095 : Int64)) (8 : Int32))) + (ushL ((((((p0 - ((ushL p0 (1 : Int32)) &&& (6148914691236517205 : Int64))) &&& (3689348814741910323 : Int64)) + ((ushL (p0 - ((ushL p0 (1 : Int32)) &&& (6148914691236517205 : Int64))) (2 : Int32)) &&& (3689348814741910323 : Int64))) + (ushL (((p0 - ((ushL p0 (1 : Int32)) &&& (6148914691236517205 : Int64))) &&& (3689348814741910323 : Int64)) + ((ushL (p0 - ((ushL p0 (1 : Int32)) &&& (6148914691236517205 : Int64))) (2 : Int32)) &&& (3689348814741910323 : Int64))) (4 : Int32))) &&& (1085102592571150095 : Int64)) + (ushL (((((p0 - ((ushL p0 (1 : Int32)) &&& (6148914691236517205 : Int64))) &&& (3689348814741910323 : Int64)) + ((ushL (p0 - ((ushL p0 (1 : Int32)) &&& (6148914691236517205 : Int64))) (2 : Int32)) &&& (3689348814741910323 : Int64))) + (ushL (((p0 - ((ushL p0 (1 : Int32)) &&& (6148914691236517205 : Int64))) &&& (3689348814741910323 : Int64)) + ((ushL (p0 - ((ushL p0 (1 : Int32)) &&& (6148914691236517205 : Int64))) (2 : Int32)) &&& (3689348814741910323 : Int64))) (4 : Int32))) &&& (1085102592571150095 : Int64)) (8 : Int32))) (16 : Int32))))]) hx hb dJ13_bitCount_95d88_47 rfl hl (by decide) rfl (fun ls hl => ?_)
  refine lv_lload_n hx hb dJ13_bitCount_95d88_48 rfl (lv_at hl 0 rfl) ?_
  refine lv_lload_n hx hb dJ13_bitCount_95d88_49 rfl (lv_at hl 0 rfl) ?_
  refine lv_bipush (v := (32 : Int32)) hx hb dJ13_bitCount_95d88_50 (by decide) ?_
  refine lv_lushr (v := (ushL (((((((p0 - ((ushL p0 (1 : Int32)) &&& (6148914691236517205 : Int64))) &&& (3689348814741910323 : Int64)) + ((ushL (p0 - ((ushL p0 (1 : Int32)) &&& (6148914691236517205 : Int64))) (2 : Int32)) &&& (3689348814741910323 : Int64))) + (ushL (((p0 - ((ushL p0 (1 : Int32)) &&& (6148914691236517205 : Int64))) &&& (3689348814741910323 : Int64)) + ((ushL (p0 - ((ushL p0 (1 : Int32)) &&& (6148914691236517205 : Int64))) (2 : Int32)) &&& (3689348814741910323 : Int64))) (4 : Int32))) &&& (1085102592571150095 : Int64)) + (ushL (((((p0 - ((ushL p0 (1 : Int32)) &&& (6148914691236517205 : Int64))) &&& (3689348814741910323 : Int64)) + ((ushL (p0 - ((ushL p0 (1 : Int32)) &&& (6148914691236517205 : Int64))) (2 : Int32)) &&& (3689348814741910323 : Int64))) + (ushL (((p0 - ((ushL p0 (1 : Int32)) &&& (6148914691236517205 : Int64))) &&& (3689348814741910323 : Int64)) + ((ushL (p0 - ((ushL p0 (1 : Int32)) &&& (6148914691236517205 : Int64))) (2 : Int32)) &&& (3689348814741910323 : Int64))) (4 : Int32))) &&& (1085102592571150095 : Int64)) (8 : Int32))) + (ushL ((((((p0 - ((ushL p0 (1 : Int32)) &&& (6148914691236517205 : Int64))) &&& (3689348814741910323 : Int64)) + ((ushL (p0 - ((ushL p0 (1 : Int32)) &&& (6148914691236517205 : Int64))) (2 : Int32)) &&& (3689348814741910323 : Int64))) + (ushL (((p0 - ((ushL p0 (1 : Int32)) &&& (6148914691236517205 : Int64))) &&& (3689348814741910323 : Int64)) + ((ushL (p0 - ((ushL p0 (1 : Int32)) &&& (6148914691236517205 : Int64))) (2 : Int32)) &&& (3689348814741910323 : Int64))) (4 : Int32))) &&& (1085102592571150095 : Int64)) + (ushL (((((p0 - ((ushL p0 (1 : Int32)) &&& (6148914691236517205 : Int64))) &&& (3689348814741910323 : Int64)) + ((ushL (p0 - ((ushL p0 (1 : Int32)) &&& (6148914691236517205 : Int64))) (2 : Int32)) &&& (3689348814741910323 : Int64))) + (ushL (((p0 - ((ushL p0 (1 : Int32)) &&& (6148914691236517205 : Int64))) &&& (3689348814741910323 : Int64)) + ((ushL (p0 - ((ushL p0 (1 : Int32)) &&& (6148914691236517205 : Int64))) (2 : Int32)) &&& (3689348814741910323 : Int64))) (4 : Int32))) &&& (1085102592571150095 : Int64)) (8 : Int32))) (16 : Int32))) (32 : Int32))) hx hb dJ13_bitCount_95d88_52 rfl ?_
  refine lv_ladd hx hb dJ13_bitCount_95d88_53 ?_
  refine lv_lstore_n (lv' := [(0, .long ((((((((p0 - ((ushL p0 (1 : Int32)) &&& (6148914691236517205 : Int64))) &&& (3689348814741910323 : Int64)) + ((ushL (p0 - ((ushL p0 (1 : Int32)) &&& (6148914691236517205 : Int64))) (2 : Int32)) &&& (3689348814741910323 : Int64))) + (ushL (((p0 - ((ushL p0 (1 : Int32)) &&& (6148914691236517205 : Int64))) &&& (3689348814741910323 : Int64)) + ((ushL (p0 - ((ushL p0 (1 : Int32)) &&& (6148914691236517205 : Int64))) (2 : Int32)) &&& (3689348814741910323 : Int64))) (4 : Int32))) &&& (1085102592571150095 : Int64)) + (ushL (((((p0 - ((ushL p0 (1 : Int32)) &&& (6148914691236517205 : Int64))) &&& (3689348814741910323 : Int64)) + ((ushL (p0 - ((ushL p0 (1 : Int32)) &&& (6148914691236517205 : Int64))) (2 : Int32)) &&& (3689348814741910323 : Int64))) + (ushL (((p0 - ((ushL p0 (1 : Int32)) &&& (6148914691236517205 : Int64))) &&& (3689348814741910323 : Int64)) + ((ushL (p0 - ((ushL p0 (1 : Int32)) &&& (6148914691236517205 : Int64))) (2 : Int32)) &&& (3689348814741910323 : Int64))) (4 : Int32))) &&& (1085102592571150095 : Int64)) (8 : Int32))) + (ushL ((((((p0 - ((ushL p0 (1 : Int32)) &&& (6148914691236517205 : Int64))) &&& (3689348814741910323 : Int64)) + ((ushL (p0 - ((ushL p0 (1 : Int32)) &&& (6148914691236517205 : Int64))) (2 : Int32)) &&& (3689348814741910323 : Int64))) + (ushL (((p0 - ((ushL p0 (1 : Int32)) &&& (6148914691236517205 : Int64))) &&& (3689348814741910323 : Int64)) + ((ushL (p0 - ((ushL p0 (1 : Int32)) &&& (6148914691236517205 : Int64))) (2 : Int32)) &&& (3689348814741910323 : Int64))) (4 : Int32))) &&& (1085102592571150095 : Int64)) + (ushL (((((p0 - ((ushL p0 (1 : Int32)) &&& (6148914691236517205 : Int64))) &&& (3689348814741910323 : Int64)) + ((ushL (p0 - ((ushL p0 (1 : Int32)) &&& (6148914691236517205 : Int64))) (2 : Int32)) &&& (3689348814741910323 : Int64))) + (ushL (((p0 - ((ushL p0 (1 : Int32)) &&& (6148914691236517205 : Int64))) &&& (3689348814741910323 : Int64)) + ((ushL (p0 - ((ushL p0 (1 : Int32)) &&& (6148914691236517205 : Int64))) (2 : Int32)) &&& (3689348814741910323 : Int64))) (4 : Int32))) &&& (1085102592571150095 : Int64)) (8 : Int32))) (16 : Int32))) + (ushL (((((((p0 - ((ushL p0 (1 : Int32)) &&& (6148914691236517205 : Int64))) &&& (3689348814741910323 : Int64)) + ((ushL (p0 - ((ushL p0 (1 : Int32)) &&& (6148914691236517205 : Int64))) (2 : Int32)) &&& (3689348814741910323 : Int64))) + (ushL (((p0 - ((ushL p0 (1 : Int32)) &&& (6148914691236517205 : Int64))) &&& (3689348814741910323 : Int64)) + ((ushL (p0 - ((ushL p0 (1 : Int32)) &&& (6148914691236517205 : Int64))) (2 : Int32)) &&& (3689348814741910323 : Int64))) (4 : Int32))) &&& (1085102592571150095 : Int64)) + (ushL (((((p0 - ((ushL p0 (1 : Int32)) &&& (6148914691236517205 : Int64))) &&& (3689348814741910323 : Int64)) + ((ushL (p0 - ((ushL p0 (1 : Int32)) &&& (6148914691236517205 : Int64))) (2 : Int32)) &&& (3689348814741910323 : Int64))) + (ushL (((p0 - ((ushL p0 (1 : Int32)) &&& (6148914691236517205 : Int64))) &&& (3689348814741910323 : Int64)) + ((ushL (p0 - ((ushL p0 (1 : Int32)) &&& (6148914691236517205 : Int64))) (2 : Int32)) &&& (3689348814741910323 : Int64))) (4 : Int32))) &&& (1085102592571150095 : Int64)) (8 : Int32))) + (ushL ((((((p0 - ((ushL p0 (1 : Int32)) &&& (6148914691236517205 : Int64))) &&& (3689348814741910323 : Int64)) + ((ushL (p0 - ((ushL p0 (1 : Int32)) &&& (6148914691236517205 : Int64))) (2 : Int32)) &&& (3689348814741910323 : Int64))) + (ushL (((p0 - ((ushL p0 (1 : Int32)) &&& (6148914691236517205 : Int64))) &&& (3689348814741910323 : Int64)) + ((ushL (p0 - ((ushL p0 (1 : Int32)) &&& (6148914691236517205 : Int64))) (2 : Int32)) &&& (3689348814741910323 : Int64))) (4 : Int32))) &&& (1085102592571150095 : Int64)) + (ushL (((((p0 - ((ushL p0 (1 : Int32)) &&& (6148914691236517205 : Int64))) &&& (3689348814741910323 : Int64)) + ((ushL (p0 - ((ushL p0 (1 : Int32)) &&& (6148914691236517205 : Int64))) (2 : Int32)) &&& (3689348814741910323 : Int64))) + (ushL (((p0 - ((ushL p0 (1 : Int32)) &&& (6148914691236517205 : Int64))) &&& (3689348814741910323 : Int64)) + ((ushL (p0 - ((ushL p0 (1 : Int32)) &&& (6148914691236517205 : Int64))) (2 : Int32)) &&& (3689348814741910323 : Int64))) (4 : Int32))) &&& (1085102592571150095 : Int64)) (8 : Int32))) (16 : Int32))) (32 : Int32))))]) hx hb dJ13_bitCount_95d88_54 rfl hl (by decide) rfl (fun ls hl => ?_)
  refine lv_lload_n hx hb dJ13_bitCount_95d88_55 rfl (lv_at hl 0 rfl) ?_
  refine lv_l2i (v := ((((((((p0 - ((ushL p0 (1 : Int32)) &&& (6148914691236517205 : Int64))) &&& (3689348814741910323 : Int64)) + ((ushL (p0 - ((ushL p0 (1 : Int32)) &&& (6148914691236517205 : Int64))) (2 : Int32)) &&& (3689348814741910323 : Int64))) + (ushL (((p0 - ((ushL p0 (1 : Int32)) &&& (6148914691236517205 : Int64))) &&& (3689348814741910323 : Int64)) + ((ushL (p0 - ((ushL p0 (1 : Int32)) &&& (6148914691236517205 : Int64))) (2 : Int32)) &&& (3689348814741910323 : Int64))) (4 : Int32))) &&& (1085102592571150095 : Int64)) + (ushL (((((p0 - ((ushL p0 (1 : Int32)) &&& (6148914691236517205 : Int64))) &&& (3689348814741910323 : Int64)) + ((ushL (p0 - ((ushL p0 (1 : Int32)) &&& (6148914691236517205 : Int64))) (2 : Int32)) &&& (3689348814741910323 : Int64))) + (ushL (((p0 - ((ushL p0 (1 : Int32)) &&& (6148914691236517205 : Int64))) &&& (3689348814741910323 : Int64)) + ((ushL (p0 - ((ushL p0 (1 : Int32)) &&& (6148914691236517205 : Int64))) (2 : Int32)) &&& (3689348814741910323 : Int64))) (4 : Int32))) &&& (1085102592571150095 : Int64)) (8 : Int32))) + (ushL ((((((p0 - ((ushL p0 (1 : Int32)) &&& (6148914691236517205 : Int64))) &&& (3689348814741910323 : Int64)) + ((ushL (p0 - ((ushL p0 (1 : Int32)) &&& (6148914691236517205 : Int64))) (2 : Int32)) &&& (3689348814741910323 : Int64))) + (ushL (((p0 - ((ushL p0 (1 : Int32)) &&& (6148914691236517205 : Int64))) &&& (3689348814741910323 : Int64)) + ((ushL (p0 - ((ushL p0 (1 : Int32)) &&& (6148914691236517205 : Int64))) (2 : Int32)) &&& (3689348814741910323 : Int64))) (4 : Int32))) &&& (1085102592571150095 : Int64)) + (ushL (((((p0 - ((ushL p0 (1 : Int32)) &&& (6148914691236517205 : Int64))) &&& (3689348814741910323 : Int64)) + ((ushL (p0 - ((ushL p0 (1 : Int32)) &&& (6148914691236517205 : Int64))) (2 : Int32)) &&& (3689348814741910323 : Int64))) + (ushL (((p0 - ((ushL p0 (1 : Int32)) &&& (6148914691236517205 : Int64))) &&& (3689348814741910323 : Int64)) + ((ushL (p0 - ((ushL p0 (1 : Int32)) &&& (6148914691236517205 : Int64))) (2 : Int32)) &&& (3689348814741910323 : Int64))) (4 : Int32))) &&& (1085102592571150095 : Int64)) (8 : Int32))) (16 : Int32))) + (ushL (((((((p0 - ((ushL p0 (1 : Int32)) &&& (6148914691236517205 : Int64))) &&& (3689348814741910323 : Int64)) + ((ushL (p0 - ((ushL p0 (1 : Int32)) &&& (6148914691236517205 : Int64))) (2 : Int32)) &&& (3689348814741910323 : Int64))) + (ushL (((p0 - ((ushL p0 (1 : Int32)) &&& (6148914691236517205 : Int64))) &&& (3689348814741910323 : Int64)) + ((ushL (p0 - ((ushL p0 (1 : Int32)) &&& (6148914691236517205 : Int64))) (2 : Int32)) &&& (3689348814741910323 : Int64))) (4 : Int32))) &&& (1085102592571150095 : Int64)) + (ushL (((((p0 - ((ushL p0 (1 : Int32)) &&& (6148914691236517205 : Int64))) &&& (3689348814741910323 : Int64)) + ((ushL (p0 - ((ushL p0 (1 : Int32)) &&& (6148914691236517205 : Int64))) (2 : Int32)) &&& (3689348814741910323 : Int64))) + (ushL (((p0 - ((ushL p0 (1 : Int32)) &&& (6148914691236517205 : Int64))) &&& (3689348814741910323 : Int64)) + ((ushL (p0 - ((ushL p0 (1 : Int32)) &&& (6148914691236517205 : Int64))) (2 : Int32)) &&& (3689348814741910323 : Int64))) (4 : Int32))) &&& (1085102592571150095 : Int64)) (8 : Int32))) + (ushL ((((((p0 - ((ushL p0 (1 : Int32)) &&& (6148914691236517205 : Int64))) &&& (3689348814741910323 : Int64)) + ((ushL (p0 - ((ushL p0 (1 : Int32)) &&& (6148914691236517205 : Int64))) (2 : Int32)) &&& (3689348814741910323 : Int64))) + (ushL (((p0 - ((ushL p0 (1 : Int32)) &&& (6148914691236517205 : Int64))) &&& (3689348814741910323 : Int64)) + ((ushL (p0 - ((ushL p0 (1 : Int32)) &&& (6148914691236517205 : Int64))) (2 : Int32)) &&& (3689348814741910323 : Int64))) (4 : Int32))) &&& (1085102592571150095 : Int64)) + (ushL (((((p0 - ((ushL p0 (1 : Int32)) &&& (6148914691236517205 : Int64))) &&& (3689348814741910323 : Int64)) + ((ushL (p0 - ((ushL p0 (1 : Int32)) &&& (6148914691236517205 : Int64))) (2 : Int32)) &&& (3689348814741910323 : Int64))) + (ushL (((p0 - ((ushL p0 (1 : Int32)) &&& (6148914691236517205 : Int64))) &&& (3689348814741910323 : Int64)) + ((ushL (p0 - ((ushL p0 (1 : Int32)) &&& (6148914691236517205 : Int64))) (2 : Int32)) &&& (3689348814741910323 : Int64))) (4 : Int32))) &&& (1085102592571150095 : Int64)) (8 : Int32))) (16 : Int32))) (32 : Int32))).toInt32) hx hb dJ13_bitCount_95d88_56 rfl ?_
  refine lv_bipush (v := (127 : Int32)) hx hb dJ13_bitCount_95d88_57 (by decide) ?_
  refine lv_iand hx hb dJ13_bitCount_95d88_59 ?_
  obtain rfl := Option.some.inj hf
  exact rt_i S hr hlk hw dJ13_bitCount_95d88_60

def f_X6_isFewerThanHalf (_ : Nat) (p0 : Int32) (p1 : Int32)  : Option (Int32) :=
  (if p1 ≤ ((2 : Int32) * p0) then (some (0 : Int32)) else (some (1 : Int32)))

set_option maxHeartbeats 4000000 in
set_option maxRecDepth 100000 in
theorem c_X6_isFewerThanHalf (l : Launch) (D : va_G) (cI cZ cJ cO : ClassId) (sz : Nat) (N : Nat) (p0 : Int32) (p1 : Int32)  (r : Int32) (hf : f_X6_isFewerThanHalf N p0 p1 = some r) : Met l yX6_isFewerThanHalf wsX6_isFewerThanHalf ({ frames := 0, cells := 0, slots := 0, locals := 0 }) (PreC D (TY cI cZ cJ cO) [.int p0, .int p1] [] sz) (QcI D [] (va_A [] sz) r) 0 0 (va_A [] sz) := by
  refine ctr (cc := cX6_isFewerThanHalf) (maxL := 2) (ret := (some .boolean)) (by decide) rfl (Nat.le_of_ble_eq_true rfl) ?_
  intro p e s m below meth c S hr hlk hnm hK hN hsz hA hw ls hl
  generalize va_A [] sz = A at hA hw ⊢
  have S : CallFix p m c cX6_isFewerThanHalf 2 s ([.int p0, .int p1] : List Value).toArray wsX6_isFewerThanHalf RX6 := S
  have hx := S.1
  have hb := S.2.1
  have hts := S.2.2.2.2
  have hl : lv_has ls 2 [(0, .int p0), (1, .int p1)] := hl
  unfold f_X6_isFewerThanHalf at hf
  refine lv_iconst (v := (2 : Int32)) hx hb dX6_isFewerThanHalf_0 (by decide) ?_
  refine lv_iload_n hx hb dX6_isFewerThanHalf_1 rfl (lv_at hl 0 rfl) ?_
  refine lv_imul hx hb dX6_isFewerThanHalf_2 ?_
  refine lv_iload_n hx hb dX6_isFewerThanHalf_3 rfl (lv_at hl 1 rfl) ?_
  refine lv_icmp_ge (tgt := 11) hx hb dX6_isFewerThanHalf_4 (by decide) (fun c1 => ?_) (fun c1 => ?_)
  · have hf := (if_pos c1).symm.trans hf
    refine lv_iconst (v := (0 : Int32)) hx hb dX6_isFewerThanHalf_11 (by decide) ?_
    obtain rfl := Option.some.inj hf
    exact rt_z S hr hlk hw dX6_isFewerThanHalf_12 rfl
  · have hf := (if_neg c1).symm.trans hf
    refine lv_iconst (v := (1 : Int32)) hx hb dX6_isFewerThanHalf_7 (by decide) ?_
    refine lv_goto (tgt := 12) hx hb dX6_isFewerThanHalf_8 (by decide) ?_
    obtain rfl := Option.some.inj hf
    exact rt_z S hr hlk hw dX6_isFewerThanHalf_12 rfl

def f_X6_ring (N : Nat) (p1 : Int32) (p2 : Int32) (t_theRow_boxes : (Nat → Int32)) (t_theRing_size : Int32) (t_theRing_bits : Int64) : Option (Int32 × Int32 × Int64) :=
  (bd1 (f_X6_isBox N p1) (fun r1 => (if r1 = (0 : Int32) then (some ((-2 : Int32), t_theRing_size, t_theRing_bits)) else (if p2 < (1 : Int32) then (some ((-2 : Int32), t_theRing_size, t_theRing_bits)) else (if (40 : Int32) < p2 then (some ((-2 : Int32), t_theRing_size, t_theRing_bits)) else (if (p1 + p2) ≤ (240 : Int32) then (bd1 (f_X3_bits N p1 p2 t_theRow_boxes) (fun r7 => (bd1 (f_J13_bitCount_95d88 N r7) (fun r9 => (bd1 (f_X6_isFewerThanHalf N r9 p2) (fun r11 => (if r11 = (0 : Int32) then (some ((-3 : Int32), t_theRing_size, t_theRing_bits)) else (bd2 (f_X1_become N p2 r7 t_theRing_size t_theRing_bits) (fun u14 u15 => (some (r9, u14, u15))))))))))) else (some ((-2 : Int32), t_theRing_size, t_theRing_bits))))))))

set_option maxHeartbeats 4000000 in
set_option maxRecDepth 100000 in
theorem c_X6_ring (l : Launch) (D : va_G) (cI cZ cJ cO : ClassId) (sz : Nat) (q_t q_t_theRow q_t_pairs q_t_latestStrings q_t_leapStrings q_t_theRing q_t_trial q_t_sheets q_t_theRow_boxes q_t_theRow_made : Nat) (N : Nat) (p1 : Int32) (p2 : Int32) (t_moves : Int32) (t_latestFinding : Int32) (t_theRow_boxes : (Nat → Int32)) (t_theRing_size : Int32) (t_theRing_bits : Int64) (t_theRing_made : Int64) (t_theRing_carrierHas : Int32) (r : Int32) (o_t_theRing_size : Int32) (o_t_theRing_bits : Int64) (hf : f_X6_ring N p1 p2 t_theRow_boxes t_theRing_size t_theRing_bits = some (r, o_t_theRing_size, o_t_theRing_bits)) : Met l yX6_ring wsX6_ring ({ frames := 3, cells := 0, slots := 0, locals := 66 }) (PreC D (TY cI cZ cJ cO) [.ref q_t, .int p1, .int p2] [(q_t, .inr (6, [.ref q_t_theRow, .ref q_t_pairs, .ref q_t_latestStrings, .ref q_t_leapStrings, .ref q_t_theRing, .ref q_t_trial, .ref q_t_sheets, .int t_moves, .int t_latestFinding])), (q_t_theRow, .inr (3, [.ref q_t_theRow_boxes, .ref q_t_theRow_made])), (q_t_theRow_boxes, .inl (cI, 240, .inl t_theRow_boxes)), (q_t_theRing, .inr (1, [.int t_theRing_size, .long t_theRing_bits, .long t_theRing_made, .int t_theRing_carrierHas]))] sz) (QcI D [(q_t, .inr (6, [.ref q_t_theRow, .ref q_t_pairs, .ref q_t_latestStrings, .ref q_t_leapStrings, .ref q_t_theRing, .ref q_t_trial, .ref q_t_sheets, .int t_moves, .int t_latestFinding])), (q_t_theRow, .inr (3, [.ref q_t_theRow_boxes, .ref q_t_theRow_made])), (q_t_theRow_boxes, .inl (cI, 240, .inl t_theRow_boxes)), (q_t_theRing, .inr (1, [.int o_t_theRing_size, .long o_t_theRing_bits, .long t_theRing_made, .int t_theRing_carrierHas]))] (va_A [(q_t, .inr (6, [.ref q_t_theRow, .ref q_t_pairs, .ref q_t_latestStrings, .ref q_t_leapStrings, .ref q_t_theRing, .ref q_t_trial, .ref q_t_sheets, .int t_moves, .int t_latestFinding])), (q_t_theRow, .inr (3, [.ref q_t_theRow_boxes, .ref q_t_theRow_made])), (q_t_theRow_boxes, .inl (cI, 240, .inl t_theRow_boxes)), (q_t_theRing, .inr (1, [.int t_theRing_size, .long t_theRing_bits, .long t_theRing_made, .int t_theRing_carrierHas]))] sz) r) 0 0 (va_A [(q_t, .inr (6, [.ref q_t_theRow, .ref q_t_pairs, .ref q_t_latestStrings, .ref q_t_leapStrings, .ref q_t_theRing, .ref q_t_trial, .ref q_t_sheets, .int t_moves, .int t_latestFinding])), (q_t_theRow, .inr (3, [.ref q_t_theRow_boxes, .ref q_t_theRow_made])), (q_t_theRow_boxes, .inl (cI, 240, .inl t_theRow_boxes)), (q_t_theRing, .inr (1, [.int t_theRing_size, .long t_theRing_bits, .long t_theRing_made, .int t_theRing_carrierHas]))] sz) := by
  refine ctr (cc := cX6_ring) (maxL := 6) (ret := (some .int)) (by decide) rfl (Nat.le_of_ble_eq_true rfl) ?_
  intro p e s m below meth c S hr hlk hnm hK hN hsz hA hw ls hl
  generalize va_A [(q_t, .inr (6, [.ref q_t_theRow, .ref q_t_pairs, .ref q_t_latestStrings, .ref q_t_leapStrings, .ref q_t_theRing, .ref q_t_trial, .ref q_t_sheets, .int t_moves, .int t_latestFinding])), (q_t_theRow, .inr (3, [.ref q_t_theRow_boxes, .ref q_t_theRow_made])), (q_t_theRow_boxes, .inl (cI, 240, .inl t_theRow_boxes)), (q_t_theRing, .inr (1, [.int t_theRing_size, .long t_theRing_bits, .long t_theRing_made, .int t_theRing_carrierHas]))] sz = A at hA hw ⊢
  have S : CallFix p m c cX6_ring 6 s ([.ref q_t, .int p1, .int p2] : List Value).toArray wsX6_ring RX6 := S
  have hx := S.1
  have hb := S.2.1
  have hts := S.2.2.2.2
  have hl : lv_has ls 6 [(0, .ref q_t), (1, .int p1), (2, .int p2)] := hl
  have hinX6 : ∀ w ∈ u_ws RX6 TX6 9, w ∈ wsX6_ring := by decide +kernel
  have k10 : Cond.fieldLink RX6 10 "BallBoxes" "theRow" "LBallBoxes$Row;" ∈ wsX6_ring := by decide +kernel
  have k36 : Cond.fieldLink RX6 36 "BallBoxes" "theRing" "LBallBoxes$Ring;" ∈ wsX6_ring := by decide +kernel
  unfold f_X6_ring at hf
  refine lv_iload_n hx hb dX6_ring_0 rfl (lv_at hl 1 rfl) ?_
  obtain ⟨r1, h2, hf⟩ := bd1_some hf
  refine cl_i (wr := [(q_t, .inr (6, [.ref q_t_theRow, .ref q_t_pairs, .ref q_t_latestStrings, .ref q_t_leapStrings, .ref q_t_theRing, .ref q_t_trial, .ref q_t_sheets, .int t_moves, .int t_latestFinding])), (q_t_theRow, .inr (3, [.ref q_t_theRow_boxes, .ref q_t_theRow_made])), (q_t_theRow_boxes, .inl (cI, 240, .inl t_theRow_boxes)), (q_t_theRing, .inr (1, [.int t_theRing_size, .long t_theRing_bits, .long t_theRing_made, .int t_theRing_carrierHas]))]) (ws' := [(q_t, .inr (6, [.ref q_t_theRow, .ref q_t_pairs, .ref q_t_latestStrings, .ref q_t_leapStrings, .ref q_t_theRing, .ref q_t_trial, .ref q_t_sheets, .int t_moves, .int t_latestFinding])), (q_t_theRow, .inr (3, [.ref q_t_theRow_boxes, .ref q_t_theRow_made])), (q_t_theRow_boxes, .inl (cI, 240, .inl t_theRow_boxes)), (q_t_theRing, .inr (1, [.int t_theRing_size, .long t_theRing_bits, .long t_theRing_made, .int t_theRing_carrierHas]))]) hA hw [] [0, 1, 2, 3] [0, 1, 2, 3] rfl rfl rfl (by decide) rfl rfl (va_runS (As := [.int p1]) (rest := []) S (c_X6_isBox l D cI cZ cJ cO _ N p1 r1 h2) (va_cwS 1 hts gX6_ring_X6_isBox rfl rfl rfl (by decide +kernel) ⟨Nat.le_of_ble_eq_true rfl, Nat.le_of_ble_eq_true rfl⟩) (pre_S hK hN hw [] rfl rfl) rfl rfl hl.1 rfl (lv_room (Nat.le_of_ble_eq_true rfl)) dX6_ring_1 ⟨Nat.zero_le _, Nat.zero_le _⟩) (fun H locs hw => ?_)
  refine lv_if_eq (tgt := 27) hx hb dX6_ring_4 (by decide) (fun c3 => ?_) (fun c3 => ?_)
  · have hf := (if_pos c3).symm.trans hf
    refine lv_bipush (v := (-2 : Int32)) hx hb dX6_ring_27 (by decide) ?_
    obtain ⟨rfl, rfl, rfl⟩ := pr3 (Option.some.inj hf)
    exact rt_i S hr hlk hw dX6_ring_29
  · have hf := (if_neg c3).symm.trans hf
    refine lv_iload_n hx hb dX6_ring_7 rfl (lv_at hl 2 rfl) ?_
    refine lv_iconst (v := (1 : Int32)) hx hb dX6_ring_8 (by decide) ?_
    refine lv_icmp_lt (tgt := 27) hx hb dX6_ring_9 (by decide) (fun c4 => ?_) (fun c4 => ?_)
    · have hf := (if_pos c4).symm.trans hf
      refine lv_bipush (v := (-2 : Int32)) hx hb dX6_ring_27 (by decide) ?_
      obtain ⟨rfl, rfl, rfl⟩ := pr3 (Option.some.inj hf)
      exact rt_i S hr hlk hw dX6_ring_29
    · have hf := (if_neg c4).symm.trans hf
      refine lv_iload_n hx hb dX6_ring_12 rfl (lv_at hl 2 rfl) ?_
      refine lv_bipush (v := (40 : Int32)) hx hb dX6_ring_13 (by decide) ?_
      refine lv_icmp_gt (tgt := 27) hx hb dX6_ring_15 (by decide) (fun c5 => ?_) (fun c5 => ?_)
      · have hf := (if_pos c5).symm.trans hf
        refine lv_bipush (v := (-2 : Int32)) hx hb dX6_ring_27 (by decide) ?_
        obtain ⟨rfl, rfl, rfl⟩ := pr3 (Option.some.inj hf)
        exact rt_i S hr hlk hw dX6_ring_29
      · have hf := (if_neg c5).symm.trans hf
        refine lv_iload_n hx hb dX6_ring_18 rfl (lv_at hl 1 rfl) ?_
        refine lv_iload_n hx hb dX6_ring_19 rfl (lv_at hl 2 rfl) ?_
        refine lv_iadd hx hb dX6_ring_20 ?_
        refine lv_sipush (v := (240 : Int32)) hx hb dX6_ring_21 (by decide) ?_
        refine lv_icmp_le (tgt := 30) hx hb dX6_ring_24 (by decide) (fun c6 => ?_) (fun c6 => ?_)
        · have hf := (if_pos c6).symm.trans hf
          refine lv_aload_n hx hb dX6_ring_30 rfl (lv_at hl 0 rfl) ?_
          refine g_get (ci := 6) (C := RX6) (T := TX6) (N := 9) S hinX6 hK hw 0 0 k10 dX6_ring_31 rfl rfl (by decide) rfl ?_
          refine lv_iload_n hx hb dX6_ring_34 rfl (lv_at hl 1 rfl) ?_
          refine lv_iload_n hx hb dX6_ring_35 rfl (lv_at hl 2 rfl) ?_
          obtain ⟨r7, h8, hf⟩ := bd1_some hf
          refine cl_l (wr := [(q_t, .inr (6, [.ref q_t_theRow, .ref q_t_pairs, .ref q_t_latestStrings, .ref q_t_leapStrings, .ref q_t_theRing, .ref q_t_trial, .ref q_t_sheets, .int t_moves, .int t_latestFinding])), (q_t_theRing, .inr (1, [.int t_theRing_size, .long t_theRing_bits, .long t_theRing_made, .int t_theRing_carrierHas]))]) (ws' := [(q_t, .inr (6, [.ref q_t_theRow, .ref q_t_pairs, .ref q_t_latestStrings, .ref q_t_leapStrings, .ref q_t_theRing, .ref q_t_trial, .ref q_t_sheets, .int t_moves, .int t_latestFinding])), (q_t_theRow, .inr (3, [.ref q_t_theRow_boxes, .ref q_t_theRow_made])), (q_t_theRow_boxes, .inl (cI, 240, .inl t_theRow_boxes)), (q_t_theRing, .inr (1, [.int t_theRing_size, .long t_theRing_bits, .long t_theRing_made, .int t_theRing_carrierHas]))]) hA hw [1, 2] [0, 3] [0, 2, 3, 1] rfl rfl rfl (by decide) rfl rfl (va_runV (As := [.int p1, .int p2]) (rest := []) S (c_X3_bits l D cI cZ cJ cO _ q_t_theRow q_t_theRow_boxes q_t_theRow_made N p1 p2 t_theRow_boxes r7 h8) (cwV 2 hts gX6_ring_X3_bits rfl rfl rfl (by decide +kernel) ⟨Nat.le_of_ble_eq_true rfl, Nat.le_of_ble_eq_true rfl⟩) (pre_V hK hN hw [1, 2] rfl rfl (C := RX3) (T := TX3) (N := 2) (ci := 3) (q0 := 0) rfl rfl) rfl rfl hl.1 rfl (lv_room (Nat.le_of_ble_eq_true rfl)) dX6_ring_36 ⟨Nat.zero_le _, Nat.zero_le _⟩) (fun H locs hw => ?_)
          refine lv_lstore_n (lv' := [(3, .long r7), (0, .ref q_t), (1, .int p1), (2, .int p2)]) hx hb dX6_ring_39 rfl hl (by decide) rfl (fun ls hl => ?_)
          refine lv_lload_n hx hb dX6_ring_40 rfl (lv_at hl 0 rfl) ?_
          obtain ⟨r9, h10, hf⟩ := bd1_some hf
          refine cl_i (wr := [(q_t, .inr (6, [.ref q_t_theRow, .ref q_t_pairs, .ref q_t_latestStrings, .ref q_t_leapStrings, .ref q_t_theRing, .ref q_t_trial, .ref q_t_sheets, .int t_moves, .int t_latestFinding])), (q_t_theRow, .inr (3, [.ref q_t_theRow_boxes, .ref q_t_theRow_made])), (q_t_theRow_boxes, .inl (cI, 240, .inl t_theRow_boxes)), (q_t_theRing, .inr (1, [.int t_theRing_size, .long t_theRing_bits, .long t_theRing_made, .int t_theRing_carrierHas]))]) (ws' := [(q_t, .inr (6, [.ref q_t_theRow, .ref q_t_pairs, .ref q_t_latestStrings, .ref q_t_leapStrings, .ref q_t_theRing, .ref q_t_trial, .ref q_t_sheets, .int t_moves, .int t_latestFinding])), (q_t_theRow, .inr (3, [.ref q_t_theRow_boxes, .ref q_t_theRow_made])), (q_t_theRow_boxes, .inl (cI, 240, .inl t_theRow_boxes)), (q_t_theRing, .inr (1, [.int t_theRing_size, .long t_theRing_bits, .long t_theRing_made, .int t_theRing_carrierHas]))]) hA hw [] [0, 1, 2, 3] [0, 1, 2, 3] rfl rfl rfl (by decide) rfl rfl (va_runS (As := [.long r7]) (rest := []) S (c_J13_bitCount_95d88 l D cI cZ cJ cO _ N r7 r9 h10) (va_cwS 1 hts gX6_ring_J13_bitCount_95d88 rfl rfl rfl (by decide +kernel) ⟨Nat.le_of_ble_eq_true rfl, Nat.le_of_ble_eq_true rfl⟩) (pre_S hK hN hw [] rfl rfl) rfl rfl hl.1 rfl (lv_room (Nat.le_of_ble_eq_true rfl)) dX6_ring_41 ⟨Nat.zero_le _, Nat.zero_le _⟩) (fun H locs hw => ?_)
          refine lv_istore (lv' := [(5, .int r9), (3, .long r7), (0, .ref q_t), (1, .int p1), (2, .int p2)]) hx hb dX6_ring_44 hl (by decide) rfl (fun ls hl => ?_)
          refine lv_iload hx hb dX6_ring_46 (lv_at hl 0 rfl) ?_
          refine lv_iload_n hx hb dX6_ring_48 rfl (lv_at hl 4 rfl) ?_
          obtain ⟨r11, h12, hf⟩ := bd1_some hf
          refine cl_i (wr := [(q_t, .inr (6, [.ref q_t_theRow, .ref q_t_pairs, .ref q_t_latestStrings, .ref q_t_leapStrings, .ref q_t_theRing, .ref q_t_trial, .ref q_t_sheets, .int t_moves, .int t_latestFinding])), (q_t_theRow, .inr (3, [.ref q_t_theRow_boxes, .ref q_t_theRow_made])), (q_t_theRow_boxes, .inl (cI, 240, .inl t_theRow_boxes)), (q_t_theRing, .inr (1, [.int t_theRing_size, .long t_theRing_bits, .long t_theRing_made, .int t_theRing_carrierHas]))]) (ws' := [(q_t, .inr (6, [.ref q_t_theRow, .ref q_t_pairs, .ref q_t_latestStrings, .ref q_t_leapStrings, .ref q_t_theRing, .ref q_t_trial, .ref q_t_sheets, .int t_moves, .int t_latestFinding])), (q_t_theRow, .inr (3, [.ref q_t_theRow_boxes, .ref q_t_theRow_made])), (q_t_theRow_boxes, .inl (cI, 240, .inl t_theRow_boxes)), (q_t_theRing, .inr (1, [.int t_theRing_size, .long t_theRing_bits, .long t_theRing_made, .int t_theRing_carrierHas]))]) hA hw [] [0, 1, 2, 3] [0, 1, 2, 3] rfl rfl rfl (by decide) rfl rfl (va_runS (As := [.int r9, .int p2]) (rest := []) S (c_X6_isFewerThanHalf l D cI cZ cJ cO _ N r9 p2 r11 h12) (va_cwS 2 hts gX6_ring_X6_isFewerThanHalf rfl rfl rfl (by decide +kernel) ⟨Nat.le_of_ble_eq_true rfl, Nat.le_of_ble_eq_true rfl⟩) (pre_S hK hN hw [] rfl rfl) rfl rfl hl.1 rfl (lv_room (Nat.le_of_ble_eq_true rfl)) dX6_ring_49 ⟨Nat.zero_le _, Nat.zero_le _⟩) (fun H locs hw => ?_)
          refine lv_if_ne (tgt := 58) hx hb dX6_ring_52 (by decide) (fun c13 => ?_) (fun c13 => ?_)
          · have hf := (if_neg c13).symm.trans hf
            refine lv_aload_n hx hb dX6_ring_58 rfl (lv_at hl 2 rfl) ?_
            refine g_get (ci := 6) (C := RX6) (T := TX6) (N := 9) S hinX6 hK hw 0 4 k36 dX6_ring_59 rfl rfl (by decide) rfl ?_
            refine lv_iload_n hx hb dX6_ring_62 rfl (lv_at hl 4 rfl) ?_
            refine lv_lload_n hx hb dX6_ring_63 rfl (lv_at hl 1 rfl) ?_
            obtain ⟨u14, u15, h16, hf⟩ := bd2_some hf
            refine cl_v (wr := [(q_t, .inr (6, [.ref q_t_theRow, .ref q_t_pairs, .ref q_t_latestStrings, .ref q_t_leapStrings, .ref q_t_theRing, .ref q_t_trial, .ref q_t_sheets, .int t_moves, .int t_latestFinding])), (q_t_theRow, .inr (3, [.ref q_t_theRow_boxes, .ref q_t_theRow_made])), (q_t_theRow_boxes, .inl (cI, 240, .inl t_theRow_boxes))]) (ws' := [(q_t, .inr (6, [.ref q_t_theRow, .ref q_t_pairs, .ref q_t_latestStrings, .ref q_t_leapStrings, .ref q_t_theRing, .ref q_t_trial, .ref q_t_sheets, .int t_moves, .int t_latestFinding])), (q_t_theRow, .inr (3, [.ref q_t_theRow_boxes, .ref q_t_theRow_made])), (q_t_theRow_boxes, .inl (cI, 240, .inl t_theRow_boxes)), (q_t_theRing, .inr (1, [.int u14, .long u15, .long t_theRing_made, .int t_theRing_carrierHas]))]) hA hw [3] [0, 1, 2] [0, 1, 2, 3] rfl rfl rfl (by decide) rfl rfl (va_runV (As := [.int p2, .long r7]) (rest := []) S (c_X1_become l D cI cZ cJ cO _ q_t_theRing N p2 r7 t_theRing_size t_theRing_bits t_theRing_made t_theRing_carrierHas u14 u15 h16) (cwV 2 hts gX6_ring_X1_become rfl rfl rfl (by decide +kernel) ⟨Nat.le_of_ble_eq_true rfl, Nat.le_of_ble_eq_true rfl⟩) (pre_V hK hN hw [3] rfl rfl (C := RX1) (T := TX1) (N := 4) (ci := 1) (q0 := 0) rfl rfl) rfl rfl hl.1 rfl (lv_room (Nat.le_of_ble_eq_true rfl)) dX6_ring_64 ⟨Nat.zero_le _, Nat.zero_le _⟩) (fun H locs hw => ?_)
            refine lv_iload hx hb dX6_ring_67 (lv_at hl 0 rfl) ?_
            obtain ⟨rfl, rfl, rfl⟩ := pr3 (Option.some.inj hf)
            exact rt_i S hr hlk hw dX6_ring_69
          · have hf := (if_pos c13).symm.trans hf
            refine lv_bipush (v := (-3 : Int32)) hx hb dX6_ring_55 (by decide) ?_
            obtain ⟨rfl, rfl, rfl⟩ := pr3 (Option.some.inj hf)
            exact rt_i S hr hlk hw dX6_ring_57
        · have hf := (if_neg c6).symm.trans hf
          refine lv_bipush (v := (-2 : Int32)) hx hb dX6_ring_27 (by decide) ?_
          obtain ⟨rfl, rfl, rfl⟩ := pr3 (Option.some.inj hf)
          exact rt_i S hr hlk hw dX6_ring_29

def f_X6_ringAt (N : Nat) (p1 : Int32) (t_theRing_size : Int32) (t_theRing_bits : Int64) : Option (Int32) :=
  (bd1 (f_X1_isRingBox N p1 t_theRing_size) (fun r1 => (if r1 = (0 : Int32) then (some (-2 : Int32)) else (bd1 (f_X1_ballAt N p1 t_theRing_bits) (fun r4 => (some r4))))))

set_option maxHeartbeats 4000000 in
set_option maxRecDepth 100000 in
theorem c_X6_ringAt (l : Launch) (D : va_G) (cI cZ cJ cO : ClassId) (sz : Nat) (q_t q_t_theRow q_t_pairs q_t_latestStrings q_t_leapStrings q_t_theRing q_t_trial q_t_sheets : Nat) (N : Nat) (p1 : Int32) (t_moves : Int32) (t_latestFinding : Int32) (t_theRing_size : Int32) (t_theRing_bits : Int64) (t_theRing_made : Int64) (t_theRing_carrierHas : Int32) (r : Int32) (hf : f_X6_ringAt N p1 t_theRing_size t_theRing_bits = some r) : Met l yX6_ringAt wsX6_ringAt ({ frames := 1, cells := 0, slots := 0, locals := 21 }) (PreC D (TY cI cZ cJ cO) [.ref q_t, .int p1] [(q_t, .inr (6, [.ref q_t_theRow, .ref q_t_pairs, .ref q_t_latestStrings, .ref q_t_leapStrings, .ref q_t_theRing, .ref q_t_trial, .ref q_t_sheets, .int t_moves, .int t_latestFinding])), (q_t_theRing, .inr (1, [.int t_theRing_size, .long t_theRing_bits, .long t_theRing_made, .int t_theRing_carrierHas]))] sz) (QcI D [(q_t, .inr (6, [.ref q_t_theRow, .ref q_t_pairs, .ref q_t_latestStrings, .ref q_t_leapStrings, .ref q_t_theRing, .ref q_t_trial, .ref q_t_sheets, .int t_moves, .int t_latestFinding])), (q_t_theRing, .inr (1, [.int t_theRing_size, .long t_theRing_bits, .long t_theRing_made, .int t_theRing_carrierHas]))] (va_A [(q_t, .inr (6, [.ref q_t_theRow, .ref q_t_pairs, .ref q_t_latestStrings, .ref q_t_leapStrings, .ref q_t_theRing, .ref q_t_trial, .ref q_t_sheets, .int t_moves, .int t_latestFinding])), (q_t_theRing, .inr (1, [.int t_theRing_size, .long t_theRing_bits, .long t_theRing_made, .int t_theRing_carrierHas]))] sz) r) 0 0 (va_A [(q_t, .inr (6, [.ref q_t_theRow, .ref q_t_pairs, .ref q_t_latestStrings, .ref q_t_leapStrings, .ref q_t_theRing, .ref q_t_trial, .ref q_t_sheets, .int t_moves, .int t_latestFinding])), (q_t_theRing, .inr (1, [.int t_theRing_size, .long t_theRing_bits, .long t_theRing_made, .int t_theRing_carrierHas]))] sz) := by
  refine ctr (cc := cX6_ringAt) (maxL := 2) (ret := (some .int)) (by decide) rfl (Nat.le_of_ble_eq_true rfl) ?_
  intro p e s m below meth c S hr hlk hnm hK hN hsz hA hw ls hl
  generalize va_A [(q_t, .inr (6, [.ref q_t_theRow, .ref q_t_pairs, .ref q_t_latestStrings, .ref q_t_leapStrings, .ref q_t_theRing, .ref q_t_trial, .ref q_t_sheets, .int t_moves, .int t_latestFinding])), (q_t_theRing, .inr (1, [.int t_theRing_size, .long t_theRing_bits, .long t_theRing_made, .int t_theRing_carrierHas]))] sz = A at hA hw ⊢
  have S : CallFix p m c cX6_ringAt 2 s ([.ref q_t, .int p1] : List Value).toArray wsX6_ringAt RX6 := S
  have hx := S.1
  have hb := S.2.1
  have hts := S.2.2.2.2
  have hl : lv_has ls 2 [(0, .ref q_t), (1, .int p1)] := hl
  have hinX6 : ∀ w ∈ u_ws RX6 TX6 9, w ∈ wsX6_ringAt := by decide +kernel
  have k36 : Cond.fieldLink RX6 36 "BallBoxes" "theRing" "LBallBoxes$Ring;" ∈ wsX6_ringAt := by decide +kernel
  unfold f_X6_ringAt at hf
  refine lv_aload_n hx hb dX6_ringAt_0 rfl (lv_at hl 0 rfl) ?_
  refine g_get (ci := 6) (C := RX6) (T := TX6) (N := 9) S hinX6 hK hw 0 4 k36 dX6_ringAt_1 rfl rfl (by decide) rfl ?_
  refine lv_iload_n hx hb dX6_ringAt_4 rfl (lv_at hl 1 rfl) ?_
  obtain ⟨r1, h2, hf⟩ := bd1_some hf
  refine cl_i (wr := [(q_t, .inr (6, [.ref q_t_theRow, .ref q_t_pairs, .ref q_t_latestStrings, .ref q_t_leapStrings, .ref q_t_theRing, .ref q_t_trial, .ref q_t_sheets, .int t_moves, .int t_latestFinding]))]) (ws' := [(q_t, .inr (6, [.ref q_t_theRow, .ref q_t_pairs, .ref q_t_latestStrings, .ref q_t_leapStrings, .ref q_t_theRing, .ref q_t_trial, .ref q_t_sheets, .int t_moves, .int t_latestFinding])), (q_t_theRing, .inr (1, [.int t_theRing_size, .long t_theRing_bits, .long t_theRing_made, .int t_theRing_carrierHas]))]) hA hw [1] [0] [0, 1] rfl rfl rfl (by decide) rfl rfl (va_runV (As := [.int p1]) (rest := []) S (c_X1_isRingBox l D cI cZ cJ cO _ q_t_theRing N p1 t_theRing_size t_theRing_bits t_theRing_made t_theRing_carrierHas r1 h2) (cwV 1 hts gX6_ringAt_X1_isRingBox rfl rfl rfl (by decide +kernel) ⟨Nat.le_of_ble_eq_true rfl, Nat.le_of_ble_eq_true rfl⟩) (pre_V hK hN hw [1] rfl rfl (C := RX1) (T := TX1) (N := 4) (ci := 1) (q0 := 0) rfl rfl) rfl rfl hl.1 rfl (lv_room (Nat.le_of_ble_eq_true rfl)) dX6_ringAt_5 ⟨Nat.zero_le _, Nat.zero_le _⟩) (fun H locs hw => ?_)
  refine lv_if_eq (tgt := 22) hx hb dX6_ringAt_8 (by decide) (fun c3 => ?_) (fun c3 => ?_)
  · have hf := (if_pos c3).symm.trans hf
    refine lv_bipush (v := (-2 : Int32)) hx hb dX6_ringAt_22 (by decide) ?_
    obtain rfl := Option.some.inj hf
    exact rt_i S hr hlk hw dX6_ringAt_24
  · have hf := (if_neg c3).symm.trans hf
    refine lv_aload_n hx hb dX6_ringAt_11 rfl (lv_at hl 0 rfl) ?_
    refine g_get (ci := 6) (C := RX6) (T := TX6) (N := 9) S hinX6 hK hw 0 4 k36 dX6_ringAt_12 rfl rfl (by decide) rfl ?_
    refine lv_iload_n hx hb dX6_ringAt_15 rfl (lv_at hl 1 rfl) ?_
    obtain ⟨r4, h5, hf⟩ := bd1_some hf
    refine cl_i (wr := [(q_t, .inr (6, [.ref q_t_theRow, .ref q_t_pairs, .ref q_t_latestStrings, .ref q_t_leapStrings, .ref q_t_theRing, .ref q_t_trial, .ref q_t_sheets, .int t_moves, .int t_latestFinding]))]) (ws' := [(q_t, .inr (6, [.ref q_t_theRow, .ref q_t_pairs, .ref q_t_latestStrings, .ref q_t_leapStrings, .ref q_t_theRing, .ref q_t_trial, .ref q_t_sheets, .int t_moves, .int t_latestFinding])), (q_t_theRing, .inr (1, [.int t_theRing_size, .long t_theRing_bits, .long t_theRing_made, .int t_theRing_carrierHas]))]) hA hw [1] [0] [0, 1] rfl rfl rfl (by decide) rfl rfl (va_runV (As := [.int p1]) (rest := []) S (c_X1_ballAt l D cI cZ cJ cO _ q_t_theRing N p1 t_theRing_size t_theRing_bits t_theRing_made t_theRing_carrierHas r4 h5) (cwV 1 hts gX6_ringAt_X1_ballAt rfl rfl rfl (by decide +kernel) ⟨Nat.le_of_ble_eq_true rfl, Nat.le_of_ble_eq_true rfl⟩) (pre_V hK hN hw [1] rfl rfl (C := RX1) (T := TX1) (N := 4) (ci := 1) (q0 := 0) rfl rfl) rfl rfl hl.1 rfl (lv_room (Nat.le_of_ble_eq_true rfl)) dX6_ringAt_16 ⟨Nat.zero_le _, Nat.zero_le _⟩) (fun H locs hw => ?_)
    refine lv_goto (tgt := 24) hx hb dX6_ringAt_19 (by decide) ?_
    obtain rfl := Option.some.inj hf
    exact rt_i S hr hlk hw dX6_ringAt_24

def f_X6_turn (N : Nat) (p1 : Int32) (t_theRing_size : Int32) (t_theRing_bits : Int64) (t_theRing_made : Int64) (t_theRing_carrierHas : Int32) : Option (Int32 × Int64 × Int64 × Int32) :=
  (bd1 (f_X6_isRoom N p1) (fun r1 => (if r1 = (0 : Int32) then (some ((-2 : Int32), t_theRing_bits, t_theRing_made, t_theRing_carrierHas)) else (bd4 (f_X1_turnBy N p1 t_theRing_size t_theRing_bits t_theRing_made t_theRing_carrierHas) (fun r4 u5 u6 u7 => (some (r4, u5, u6, u7)))))))

set_option maxHeartbeats 4000000 in
set_option maxRecDepth 100000 in
theorem c_X6_turn (l : Launch) (D : va_G) (cI cZ cJ cO : ClassId) (sz : Nat) (q_t q_t_theRow q_t_pairs q_t_latestStrings q_t_leapStrings q_t_theRing q_t_trial q_t_sheets : Nat) (N : Nat) (p1 : Int32) (t_moves : Int32) (t_latestFinding : Int32) (t_theRing_size : Int32) (t_theRing_bits : Int64) (t_theRing_made : Int64) (t_theRing_carrierHas : Int32) (r : Int32) (o_t_theRing_bits : Int64) (o_t_theRing_made : Int64) (o_t_theRing_carrierHas : Int32) (hf : f_X6_turn N p1 t_theRing_size t_theRing_bits t_theRing_made t_theRing_carrierHas = some (r, o_t_theRing_bits, o_t_theRing_made, o_t_theRing_carrierHas)) : Met l yX6_turn wsX6_turn ({ frames := 3, cells := 0, slots := 0, locals := 72 }) (PreC D (TY cI cZ cJ cO) [.ref q_t, .int p1] [(q_t, .inr (6, [.ref q_t_theRow, .ref q_t_pairs, .ref q_t_latestStrings, .ref q_t_leapStrings, .ref q_t_theRing, .ref q_t_trial, .ref q_t_sheets, .int t_moves, .int t_latestFinding])), (q_t_theRing, .inr (1, [.int t_theRing_size, .long t_theRing_bits, .long t_theRing_made, .int t_theRing_carrierHas]))] sz) (QcI D [(q_t, .inr (6, [.ref q_t_theRow, .ref q_t_pairs, .ref q_t_latestStrings, .ref q_t_leapStrings, .ref q_t_theRing, .ref q_t_trial, .ref q_t_sheets, .int t_moves, .int t_latestFinding])), (q_t_theRing, .inr (1, [.int t_theRing_size, .long o_t_theRing_bits, .long o_t_theRing_made, .int o_t_theRing_carrierHas]))] (va_A [(q_t, .inr (6, [.ref q_t_theRow, .ref q_t_pairs, .ref q_t_latestStrings, .ref q_t_leapStrings, .ref q_t_theRing, .ref q_t_trial, .ref q_t_sheets, .int t_moves, .int t_latestFinding])), (q_t_theRing, .inr (1, [.int t_theRing_size, .long t_theRing_bits, .long t_theRing_made, .int t_theRing_carrierHas]))] sz) r) 0 0 (va_A [(q_t, .inr (6, [.ref q_t_theRow, .ref q_t_pairs, .ref q_t_latestStrings, .ref q_t_leapStrings, .ref q_t_theRing, .ref q_t_trial, .ref q_t_sheets, .int t_moves, .int t_latestFinding])), (q_t_theRing, .inr (1, [.int t_theRing_size, .long t_theRing_bits, .long t_theRing_made, .int t_theRing_carrierHas]))] sz) := by
  refine ctr (cc := cX6_turn) (maxL := 2) (ret := (some .int)) (by decide) rfl (Nat.le_of_ble_eq_true rfl) ?_
  intro p e s m below meth c S hr hlk hnm hK hN hsz hA hw ls hl
  generalize va_A [(q_t, .inr (6, [.ref q_t_theRow, .ref q_t_pairs, .ref q_t_latestStrings, .ref q_t_leapStrings, .ref q_t_theRing, .ref q_t_trial, .ref q_t_sheets, .int t_moves, .int t_latestFinding])), (q_t_theRing, .inr (1, [.int t_theRing_size, .long t_theRing_bits, .long t_theRing_made, .int t_theRing_carrierHas]))] sz = A at hA hw ⊢
  have S : CallFix p m c cX6_turn 2 s ([.ref q_t, .int p1] : List Value).toArray wsX6_turn RX6 := S
  have hx := S.1
  have hb := S.2.1
  have hts := S.2.2.2.2
  have hl : lv_has ls 2 [(0, .ref q_t), (1, .int p1)] := hl
  have hinX6 : ∀ w ∈ u_ws RX6 TX6 9, w ∈ wsX6_turn := by decide +kernel
  have k36 : Cond.fieldLink RX6 36 "BallBoxes" "theRing" "LBallBoxes$Ring;" ∈ wsX6_turn := by decide +kernel
  unfold f_X6_turn at hf
  refine lv_iload_n hx hb dX6_turn_0 rfl (lv_at hl 1 rfl) ?_
  obtain ⟨r1, h2, hf⟩ := bd1_some hf
  refine cl_i (wr := [(q_t, .inr (6, [.ref q_t_theRow, .ref q_t_pairs, .ref q_t_latestStrings, .ref q_t_leapStrings, .ref q_t_theRing, .ref q_t_trial, .ref q_t_sheets, .int t_moves, .int t_latestFinding])), (q_t_theRing, .inr (1, [.int t_theRing_size, .long t_theRing_bits, .long t_theRing_made, .int t_theRing_carrierHas]))]) (ws' := [(q_t, .inr (6, [.ref q_t_theRow, .ref q_t_pairs, .ref q_t_latestStrings, .ref q_t_leapStrings, .ref q_t_theRing, .ref q_t_trial, .ref q_t_sheets, .int t_moves, .int t_latestFinding])), (q_t_theRing, .inr (1, [.int t_theRing_size, .long t_theRing_bits, .long t_theRing_made, .int t_theRing_carrierHas]))]) hA hw [] [0, 1] [0, 1] rfl rfl rfl (by decide) rfl rfl (va_runS (As := [.int p1]) (rest := []) S (c_X6_isRoom l D cI cZ cJ cO _ N p1 r1 h2) (va_cwS 1 hts gX6_turn_X6_isRoom rfl rfl rfl (by decide +kernel) ⟨Nat.le_of_ble_eq_true rfl, Nat.le_of_ble_eq_true rfl⟩) (pre_S hK hN hw [] rfl rfl) rfl rfl hl.1 rfl (lv_room (Nat.le_of_ble_eq_true rfl)) dX6_turn_1 ⟨Nat.zero_le _, Nat.zero_le _⟩) (fun H locs hw => ?_)
  refine lv_if_eq (tgt := 18) hx hb dX6_turn_4 (by decide) (fun c3 => ?_) (fun c3 => ?_)
  · have hf := (if_pos c3).symm.trans hf
    refine lv_bipush (v := (-2 : Int32)) hx hb dX6_turn_18 (by decide) ?_
    obtain ⟨rfl, rfl, rfl, rfl⟩ := pr4 (Option.some.inj hf)
    exact rt_i S hr hlk hw dX6_turn_20
  · have hf := (if_neg c3).symm.trans hf
    refine lv_aload_n hx hb dX6_turn_7 rfl (lv_at hl 0 rfl) ?_
    refine g_get (ci := 6) (C := RX6) (T := TX6) (N := 9) S hinX6 hK hw 0 4 k36 dX6_turn_8 rfl rfl (by decide) rfl ?_
    refine lv_iload_n hx hb dX6_turn_11 rfl (lv_at hl 1 rfl) ?_
    obtain ⟨r4, u5, u6, u7, h8, hf⟩ := bd4_some hf
    refine cl_i (wr := [(q_t, .inr (6, [.ref q_t_theRow, .ref q_t_pairs, .ref q_t_latestStrings, .ref q_t_leapStrings, .ref q_t_theRing, .ref q_t_trial, .ref q_t_sheets, .int t_moves, .int t_latestFinding]))]) (ws' := [(q_t, .inr (6, [.ref q_t_theRow, .ref q_t_pairs, .ref q_t_latestStrings, .ref q_t_leapStrings, .ref q_t_theRing, .ref q_t_trial, .ref q_t_sheets, .int t_moves, .int t_latestFinding])), (q_t_theRing, .inr (1, [.int t_theRing_size, .long u5, .long u6, .int u7]))]) hA hw [1] [0] [0, 1] rfl rfl rfl (by decide) rfl rfl (va_runV (As := [.int p1]) (rest := []) S (c_X1_turnBy l D cI cZ cJ cO _ q_t_theRing N p1 t_theRing_size t_theRing_bits t_theRing_made t_theRing_carrierHas r4 u5 u6 u7 h8) (cwV 1 hts gX6_turn_X1_turnBy rfl rfl rfl (by decide +kernel) ⟨Nat.le_of_ble_eq_true rfl, Nat.le_of_ble_eq_true rfl⟩) (pre_V hK hN hw [1] rfl rfl (C := RX1) (T := TX1) (N := 4) (ci := 1) (q0 := 0) rfl rfl) rfl rfl hl.1 rfl (lv_room (Nat.le_of_ble_eq_true rfl)) dX6_turn_12 ⟨Nat.zero_le _, Nat.zero_le _⟩) (fun H locs hw => ?_)
    refine lv_goto (tgt := 20) hx hb dX6_turn_15 (by decide) ?_
    obtain ⟨rfl, rfl, rfl, rfl⟩ := pr4 (Option.some.inj hf)
    exact rt_i S hr hlk hw dX6_turn_20

def f_X6_period (N : Nat) (p1 : Int32) (t_theRing_size : Int32) (t_theRing_bits : Int64) (t_trial_ring_size : Int32) (t_trial_ring_bits : Int64) (t_trial_ring_made : Int64) (t_trial_ring_carrierHas : Int32) : Option (Int32 × Int32 × Int64 × Int64 × Int32) :=
  (bd1 (f_X6_isRoom N p1) (fun r1 => (if r1 = (0 : Int32) then (some ((-2 : Int32), t_trial_ring_size, t_trial_ring_bits, t_trial_ring_made, t_trial_ring_carrierHas)) else (bd5 (f_X2_periodOf N p1 t_trial_ring_size t_trial_ring_bits t_trial_ring_made t_trial_ring_carrierHas t_theRing_size t_theRing_bits) (fun r4 u5 u6 u7 u8 => (some (r4, u5, u6, u7, u8)))))))

set_option maxHeartbeats 4000000 in
set_option maxRecDepth 100000 in
theorem c_X6_period (l : Launch) (D : va_G) (cI cZ cJ cO : ClassId) (sz : Nat) (q_t q_t_theRow q_t_pairs q_t_latestStrings q_t_leapStrings q_t_theRing q_t_trial q_t_sheets q_t_trial_ring q_t_trial_seen : Nat) (N : Nat) (p1 : Int32) (t_moves : Int32) (t_latestFinding : Int32) (t_theRing_size : Int32) (t_theRing_bits : Int64) (t_theRing_made : Int64) (t_theRing_carrierHas : Int32) (t_trial_ring_size : Int32) (t_trial_ring_bits : Int64) (t_trial_ring_made : Int64) (t_trial_ring_carrierHas : Int32) (r : Int32) (o_t_trial_ring_size : Int32) (o_t_trial_ring_bits : Int64) (o_t_trial_ring_made : Int64) (o_t_trial_ring_carrierHas : Int32) (hf : f_X6_period N p1 t_theRing_size t_theRing_bits t_trial_ring_size t_trial_ring_bits t_trial_ring_made t_trial_ring_carrierHas = some (r, o_t_trial_ring_size, o_t_trial_ring_bits, o_t_trial_ring_made, o_t_trial_ring_carrierHas)) : Met l yX6_period wsX6_period ({ frames := 4, cells := 0, slots := 0, locals := 95 }) (PreC D (TY cI cZ cJ cO) [.ref q_t, .int p1] [(q_t, .inr (6, [.ref q_t_theRow, .ref q_t_pairs, .ref q_t_latestStrings, .ref q_t_leapStrings, .ref q_t_theRing, .ref q_t_trial, .ref q_t_sheets, .int t_moves, .int t_latestFinding])), (q_t_theRing, .inr (1, [.int t_theRing_size, .long t_theRing_bits, .long t_theRing_made, .int t_theRing_carrierHas])), (q_t_trial, .inr (2, [.ref q_t_trial_ring, .ref q_t_trial_seen])), (q_t_trial_ring, .inr (1, [.int t_trial_ring_size, .long t_trial_ring_bits, .long t_trial_ring_made, .int t_trial_ring_carrierHas]))] sz) (QcI D [(q_t, .inr (6, [.ref q_t_theRow, .ref q_t_pairs, .ref q_t_latestStrings, .ref q_t_leapStrings, .ref q_t_theRing, .ref q_t_trial, .ref q_t_sheets, .int t_moves, .int t_latestFinding])), (q_t_theRing, .inr (1, [.int t_theRing_size, .long t_theRing_bits, .long t_theRing_made, .int t_theRing_carrierHas])), (q_t_trial, .inr (2, [.ref q_t_trial_ring, .ref q_t_trial_seen])), (q_t_trial_ring, .inr (1, [.int o_t_trial_ring_size, .long o_t_trial_ring_bits, .long o_t_trial_ring_made, .int o_t_trial_ring_carrierHas]))] (va_A [(q_t, .inr (6, [.ref q_t_theRow, .ref q_t_pairs, .ref q_t_latestStrings, .ref q_t_leapStrings, .ref q_t_theRing, .ref q_t_trial, .ref q_t_sheets, .int t_moves, .int t_latestFinding])), (q_t_theRing, .inr (1, [.int t_theRing_size, .long t_theRing_bits, .long t_theRing_made, .int t_theRing_carrierHas])), (q_t_trial, .inr (2, [.ref q_t_trial_ring, .ref q_t_trial_seen])), (q_t_trial_ring, .inr (1, [.int t_trial_ring_size, .long t_trial_ring_bits, .long t_trial_ring_made, .int t_trial_ring_carrierHas]))] sz) r) 0 0 (va_A [(q_t, .inr (6, [.ref q_t_theRow, .ref q_t_pairs, .ref q_t_latestStrings, .ref q_t_leapStrings, .ref q_t_theRing, .ref q_t_trial, .ref q_t_sheets, .int t_moves, .int t_latestFinding])), (q_t_theRing, .inr (1, [.int t_theRing_size, .long t_theRing_bits, .long t_theRing_made, .int t_theRing_carrierHas])), (q_t_trial, .inr (2, [.ref q_t_trial_ring, .ref q_t_trial_seen])), (q_t_trial_ring, .inr (1, [.int t_trial_ring_size, .long t_trial_ring_bits, .long t_trial_ring_made, .int t_trial_ring_carrierHas]))] sz) := by
  refine ctr (cc := cX6_period) (maxL := 2) (ret := (some .int)) (by decide) rfl (Nat.le_of_ble_eq_true rfl) ?_
  intro p e s m below meth c S hr hlk hnm hK hN hsz hA hw ls hl
  generalize va_A [(q_t, .inr (6, [.ref q_t_theRow, .ref q_t_pairs, .ref q_t_latestStrings, .ref q_t_leapStrings, .ref q_t_theRing, .ref q_t_trial, .ref q_t_sheets, .int t_moves, .int t_latestFinding])), (q_t_theRing, .inr (1, [.int t_theRing_size, .long t_theRing_bits, .long t_theRing_made, .int t_theRing_carrierHas])), (q_t_trial, .inr (2, [.ref q_t_trial_ring, .ref q_t_trial_seen])), (q_t_trial_ring, .inr (1, [.int t_trial_ring_size, .long t_trial_ring_bits, .long t_trial_ring_made, .int t_trial_ring_carrierHas]))] sz = A at hA hw ⊢
  have S : CallFix p m c cX6_period 2 s ([.ref q_t, .int p1] : List Value).toArray wsX6_period RX6 := S
  have hx := S.1
  have hb := S.2.1
  have hts := S.2.2.2.2
  have hl : lv_has ls 2 [(0, .ref q_t), (1, .int p1)] := hl
  have hinX6 : ∀ w ∈ u_ws RX6 TX6 9, w ∈ wsX6_period := by decide +kernel
  have k36 : Cond.fieldLink RX6 36 "BallBoxes" "theRing" "LBallBoxes$Ring;" ∈ wsX6_period := by decide +kernel
  have k43 : Cond.fieldLink RX6 43 "BallBoxes" "trial" "LBallBoxes$RingTrial;" ∈ wsX6_period := by decide +kernel
  unfold f_X6_period at hf
  refine lv_iload_n hx hb dX6_period_0 rfl (lv_at hl 1 rfl) ?_
  obtain ⟨r1, h2, hf⟩ := bd1_some hf
  refine cl_i (wr := [(q_t, .inr (6, [.ref q_t_theRow, .ref q_t_pairs, .ref q_t_latestStrings, .ref q_t_leapStrings, .ref q_t_theRing, .ref q_t_trial, .ref q_t_sheets, .int t_moves, .int t_latestFinding])), (q_t_theRing, .inr (1, [.int t_theRing_size, .long t_theRing_bits, .long t_theRing_made, .int t_theRing_carrierHas])), (q_t_trial, .inr (2, [.ref q_t_trial_ring, .ref q_t_trial_seen])), (q_t_trial_ring, .inr (1, [.int t_trial_ring_size, .long t_trial_ring_bits, .long t_trial_ring_made, .int t_trial_ring_carrierHas]))]) (ws' := [(q_t, .inr (6, [.ref q_t_theRow, .ref q_t_pairs, .ref q_t_latestStrings, .ref q_t_leapStrings, .ref q_t_theRing, .ref q_t_trial, .ref q_t_sheets, .int t_moves, .int t_latestFinding])), (q_t_theRing, .inr (1, [.int t_theRing_size, .long t_theRing_bits, .long t_theRing_made, .int t_theRing_carrierHas])), (q_t_trial, .inr (2, [.ref q_t_trial_ring, .ref q_t_trial_seen])), (q_t_trial_ring, .inr (1, [.int t_trial_ring_size, .long t_trial_ring_bits, .long t_trial_ring_made, .int t_trial_ring_carrierHas]))]) hA hw [] [0, 1, 2, 3] [0, 1, 2, 3] rfl rfl rfl (by decide) rfl rfl (va_runS (As := [.int p1]) (rest := []) S (c_X6_isRoom l D cI cZ cJ cO _ N p1 r1 h2) (va_cwS 1 hts gX6_period_X6_isRoom rfl rfl rfl (by decide +kernel) ⟨Nat.le_of_ble_eq_true rfl, Nat.le_of_ble_eq_true rfl⟩) (pre_S hK hN hw [] rfl rfl) rfl rfl hl.1 rfl (lv_room (Nat.le_of_ble_eq_true rfl)) dX6_period_1 ⟨Nat.zero_le _, Nat.zero_le _⟩) (fun H locs hw => ?_)
  refine lv_if_eq (tgt := 22) hx hb dX6_period_4 (by decide) (fun c3 => ?_) (fun c3 => ?_)
  · have hf := (if_pos c3).symm.trans hf
    refine lv_bipush (v := (-2 : Int32)) hx hb dX6_period_22 (by decide) ?_
    obtain ⟨rfl, rfl, rfl, rfl, rfl⟩ := pr5 (Option.some.inj hf)
    exact rt_i S hr hlk hw dX6_period_24
  · have hf := (if_neg c3).symm.trans hf
    refine lv_aload_n hx hb dX6_period_7 rfl (lv_at hl 0 rfl) ?_
    refine g_get (ci := 6) (C := RX6) (T := TX6) (N := 9) S hinX6 hK hw 0 5 k43 dX6_period_8 rfl rfl (by decide) rfl ?_
    refine lv_aload_n hx hb dX6_period_11 rfl (lv_at hl 0 rfl) ?_
    refine g_get (ci := 6) (C := RX6) (T := TX6) (N := 9) S hinX6 hK hw 0 4 k36 dX6_period_12 rfl rfl (by decide) rfl ?_
    refine lv_iload_n hx hb dX6_period_15 rfl (lv_at hl 1 rfl) ?_
    obtain ⟨r4, u5, u6, u7, u8, h9, hf⟩ := bd5_some hf
    refine cl_i (wr := [(q_t, .inr (6, [.ref q_t_theRow, .ref q_t_pairs, .ref q_t_latestStrings, .ref q_t_leapStrings, .ref q_t_theRing, .ref q_t_trial, .ref q_t_sheets, .int t_moves, .int t_latestFinding]))]) (ws' := [(q_t, .inr (6, [.ref q_t_theRow, .ref q_t_pairs, .ref q_t_latestStrings, .ref q_t_leapStrings, .ref q_t_theRing, .ref q_t_trial, .ref q_t_sheets, .int t_moves, .int t_latestFinding])), (q_t_theRing, .inr (1, [.int t_theRing_size, .long t_theRing_bits, .long t_theRing_made, .int t_theRing_carrierHas])), (q_t_trial, .inr (2, [.ref q_t_trial_ring, .ref q_t_trial_seen])), (q_t_trial_ring, .inr (1, [.int u5, .long u6, .long u7, .int u8]))]) hA hw [2, 3, 1] [0] [0, 3, 1, 2] rfl rfl rfl (by decide) rfl rfl (va_runV (As := [.ref q_t_theRing, .int p1]) (rest := []) S (c_X2_periodOf l D cI cZ cJ cO _ q_t_trial q_t_trial_ring q_t_trial_seen q_t_theRing N p1 t_trial_ring_size t_trial_ring_bits t_trial_ring_made t_trial_ring_carrierHas t_theRing_size t_theRing_bits t_theRing_made t_theRing_carrierHas r4 u5 u6 u7 u8 h9) (cwV 2 hts gX6_period_X2_periodOf rfl rfl rfl (by decide +kernel) ⟨Nat.le_of_ble_eq_true rfl, Nat.le_of_ble_eq_true rfl⟩) (pre_V hK hN hw [2, 3, 1] rfl rfl (C := RX2) (T := TX2) (N := 2) (ci := 2) (q0 := 0) rfl rfl) rfl rfl hl.1 rfl (lv_room (Nat.le_of_ble_eq_true rfl)) dX6_period_16 ⟨Nat.zero_le _, Nat.zero_le _⟩) (fun H locs hw => ?_)
    refine lv_goto (tgt := 24) hx hb dX6_period_19 (by decide) ?_
    obtain ⟨rfl, rfl, rfl, rfl, rfl⟩ := pr5 (Option.some.inj hf)
    exact rt_i S hr hlk hw dX6_period_24
