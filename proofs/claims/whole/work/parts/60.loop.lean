set_option maxHeartbeats 4000000 in
set_option maxRecDepth 100000 in
theorem law_loop {p : Program} {l : Launch} {e : Env} {s : State} {m : MethodId} {below : List Frame} {meth : Method} {c : Code} {D : va_G} {cI cZ cJ cO : ClassId} {b L qx qm : Nat} {a d : Nat → Nat} {xs : Nat → Int32} (hL : L ≤ 3072) (C0 : lw_At p s m meth c b L xs) (hts2 : ∀ w ∈ wsL_law, w.before #[Value.ref b] s = true) (hK : va_K D vwCl (TY cI cZ cJ cO) s) (hN : NW s) : ∀ (n i : Nat), i ≤ L → L + 1 ≤ i + n → ∀ (mv : Int32) (lf : Int32) (cb : (Nat → Int32)) (cm : (Nat → Int32)) (ps : Int32) (pl : (Nat → Int32)) (ts : Int32) (tb : Int32) (tl : (Nat → Int32)) (tr : (Nat → Int32)) (tS : (Nat → Int32)) (es : Int32) (eb : Int32) (el : (Nat → Int32)) (er : (Nat → Int32)) (eS : (Nat → Int32)) (rn : Int32) (rb : Int64) (rm : Int64) (rc : Int32) (un : Int32) (ub : Int64) (um : Int64) (uc : Int32) (sn : (Nat → Int64)) (sl : (Nat → Int32)) (sf : (Nat → Int32)) (ss : (Nat → Int32)) (si : (Nat → Nat → Int32)) (my : Int32) (mb : (Nat → Int32)) (mn : (Nat → Int32)) (ml : (Nat → Int32)) (mp : (Nat → Int32)) (mL : (Nat → Int32)) (mR : (Nat → Int32)) (oL : (Nat → Int32)) (oR : (Nat → Int32)) (oM : (Nat → Int32)) (mr : (Nat → Int32)) (mw : (Nat → Int32)) (mS : (Nat → Int32)) (hT : (Nat → Int32)) (hF : (Nat → Int32)) (hS : (Nat → Int32)) (hI : (Nat → Int32)) (hM : (Nat → Int32)) (H : Heap) (locs : List Loc) (ls : Array Slot), (Inv cb mb tl tr tS ts tb oL oR oM rn rb mr sl sf ss si hT hF hS hI) → Wd D (fun q : Nat => s.heap.size ≤ q) s.heap (LW cI cZ cJ cO qx qm a d mv lf cb cm ps pl ts tb tl tr tS es eb el er eS rn rb rm rc un ub um uc sn sl sf ss si mv lf my ts rn mb mn ml mp mL mR oL oR oM mr mw mS hT hF hS hI hM) H locs → lv_has ls 4 [(0, .ref b), (1, .ref qx), (2, .ref qm), (3, .int (nI i))] → W p l e room_1 s m #[Value.ref b] below meth c H locs 45 5498 (lw_Z below #[Value.ref b] s) (F0 m 18 ls []) := by
  obtain ⟨hx, hb, hr, hml, hown, hts, hX, hbl, hlocks, hgv⟩ := id C0
  have hbA : ¬ (fun q : Nat => s.heap.size ≤ q) b := Nat.not_le.mpr hbl
  have hb2 : c.code = cL_law := hb
  intro n
  induction n with
  | zero => intro i h1 h2; omega
  | succ n ih =>
    intro i hiL hin mv lf cb cm ps pl ts tb tl tr tS es eb el er eS rn rb rm rc un ub um uc sn sl sf ss si my mb mn ml mp mL mR oL oR oM mr mw mS hT hF hS hI hM H locs ls hInv hw hl
    have hlen : (nI L - (6 : Int32)).toInt = (L : Int) - 6 := pk_sub_toInt (a := L) (b := 6) (by omega) (by omega)
    refine lv_iload_n hx hb2 dL_law_18 rfl (lv_at hl 3 rfl) ?_
    refine lv_aload_n hx hb2 dL_law_19 rfl (lv_at hl 0 rfl) ?_
    refine va_slen hx hb2 hX hbl hbA hw.2.2 dL_law_20 ?_
    refine lv_bipush (v := (6 : Int32)) hx hb2 dL_law_21 (by decide) ?_
    refine lv_isub hx hb2 dL_law_23 ?_
    refine lv_icmp_gt (tgt := 926) hx hb2 dL_law_24 (by decide) (fun c1 => ?_) (fun c1 => ?_)
    · refine lv_iconst (v := (1 : Int32)) hx hb2 dL_law_926 (by decide) ?_
      refine va_forget (fun q hq => hw.2.2.2.2 q hq) ?_
      refine W.widen (k := 600000) (n := 7302249) (by decide) (by decide) ?_
      exact lw_ret hx hb hr hlocks dL_law_927
    · have hi : i + 6 ≤ L := by
        have h9 : ¬ (nI L - (6 : Int32)) < nI i := c1
        rw [Int32.lt_iff_toInt_lt, hlen, nI_toInt (by omega)] at h9
        omega
      have h_0 : vp_in (nI i) L := vp_in_nI (by omega) (by omega)
      have hG : LGoal p l e s m below meth c D cI cZ cJ cO b qx qm a d i := by
        intro mv lf cb cm ps pl ts tb tl tr tS es eb el er eS rn rb rm rc un ub um uc sn sl sf ss si my mb mn ml mp mL mR oL oR oM mr mw mS hT hF hS hI hM H locs ls hInv hw hl
        refine lv_iinc (v := nI (i + 6)) (lv' := [(3, .int (nI (i + 6))), (0, .ref b), (1, .ref qx), (2, .ref qm)]) hx hb2 dL_law_920 hl (k := 3) rfl (nI_add i 6) (by decide) rfl (fun ls hl => ?_)
        refine lv_goto (tgt := 18) hx hb2 dL_law_923 (by decide) ?_
        exact ih (i + 6) hi (by omega) mv lf cb cm ps pl ts tb tl tr tS es eb el er eS rn rb rm rc un ub um uc sn sl sf ss si my mb mn ml mp mL mR oL oR oM mr mw mS hT hF hS hI hM _ _ _ hInv hw (lv_sub hl [1, 2, 3, 0] rfl)
      refine lv_aload_n hx hb2 dL_law_27 rfl (lv_at hl 0 rfl) ?_
      refine lv_iload_n hx hb2 dL_law_28 rfl (lv_at hl 3 rfl) ?_
      refine va_sld hx hb2 hX hbl hbA hw.2.2 h_0 dL_law_29 ?_
      refine lv_bipush (v := (31 : Int32)) hx hb2 dL_law_30 (by decide) ?_
      refine lv_iand hx hb2 dL_law_32 ?_
      obtain ⟨j, hj, ej⟩ := pk_andE (xs (nI i).toNatClampNeg) (m := 31) 5 (by decide)
      rw [ej]
      have hj : j < 32 := hj
      rcases (show j = 0 ∨ j = 1 ∨ j = 2 ∨ j = 3 ∨ j = 4 ∨ j = 5 ∨ j = 6 ∨ j = 7 ∨ j = 8 ∨ j = 9 ∨ j = 10 ∨ j = 11 ∨ j = 12 ∨ j = 13 ∨ j = 14 ∨ j = 15 ∨ j = 16 ∨ j = 17 ∨ j = 18 ∨ j = 19 ∨ j = 20 ∨ j = 21 ∨ j = 22 ∨ j = 23 ∨ j = 24 ∨ 25 ≤ j by omega) with rfl | rfl | rfl | rfl | rfl | rfl | rfl | rfl | rfl | rfl | rfl | rfl | rfl | rfl | rfl | rfl | rfl | rfl | rfl | rfl | rfl | rfl | rfl | rfl | rfl | hj2
      · refine lv_tableIn (off := 115) (tgt := 148) hx hb2 dL_law_33 (by decide) (by decide) (by decide) (by decide) ?_
        exact law_set hL C0 hts2 hK hN i hi hG mv lf cb cm ps pl ts tb tl tr tS es eb el er eS rn rb rm rc un ub um uc sn sl sf ss si my mb mn ml mp mL mR oL oR oM mr mw mS hT hF hS hI hM _ _ _ hInv hw hl
      · refine lv_tableIn (off := 164) (tgt := 197) hx hb2 dL_law_33 (by decide) (by decide) (by decide) (by decide) ?_
        exact law_at hL C0 hts2 hK hN i hi hG mv lf cb cm ps pl ts tb tl tr tS es eb el er eS rn rb rm rc un ub um uc sn sl sf ss si my mb mn ml mp mL mR oL oR oM mr mw mS hT hF hS hI hM _ _ _ hInv hw hl
      · refine lv_tableIn (off := 187) (tgt := 220) hx hb2 dL_law_33 (by decide) (by decide) (by decide) (by decide) ?_
        exact law_empty hL C0 hts2 hK hN i hi hG mv lf cb cm ps pl ts tb tl tr tS es eb el er eS rn rb rm rc un ub um uc sn sl sf ss si my mb mn ml mp mL mR oL oR oM mr mw mS hT hF hS hI hM _ _ _ hInv hw hl
      · refine lv_tableIn (off := 200) (tgt := 233) hx hb2 dL_law_33 (by decide) (by decide) (by decide) (by decide) ?_
        exact law_step hL C0 hts2 hK hN i hi hG mv lf cb cm ps pl ts tb tl tr tS es eb el er eS rn rb rm rc un ub um uc sn sl sf ss si my mb mn ml mp mL mR oL oR oM mr mw mS hT hF hS hI hM _ _ _ hInv hw hl
      · refine lv_tableIn (off := 223) (tgt := 256) hx hb2 dL_law_33 (by decide) (by decide) (by decide) (by decide) ?_
        exact law_back hL C0 hts2 hK hN i hi hG mv lf cb cm ps pl ts tb tl tr tS es eb el er eS rn rb rm rc un ub um uc sn sl sf ss si my mb mn ml mp mL mR oL oR oM mr mw mS hT hF hS hI hM _ _ _ hInv hw hl
      · refine lv_tableIn (off := 246) (tgt := 279) hx hb2 dL_law_33 (by decide) (by decide) (by decide) (by decide) ?_
        exact law_kept hL C0 hts2 hK hN i hi hG mv lf cb cm ps pl ts tb tl tr tS es eb el er eS rn rb rm rc un ub um uc sn sl sf ss si my mb mn ml mp mL mR oL oR oM mr mw mS hT hF hS hI hM _ _ _ hInv hw hl
      · refine lv_tableIn (off := 269) (tgt := 302) hx hb2 dL_law_33 (by decide) (by decide) (by decide) (by decide) ?_
        exact law_row hL C0 hts2 hK hN i hi hG mv lf cb cm ps pl ts tb tl tr tS es eb el er eS rn rb rm rc un ub um uc sn sl sf ss si my mb mn ml mp mL mR oL oR oM mr mw mS hT hF hS hI hM _ _ _ hInv hw hl
      · refine lv_tableIn (off := 292) (tgt := 325) hx hb2 dL_law_33 (by decide) (by decide) (by decide) (by decide) ?_
        exact law_heap hL C0 hts2 hK hN i hi hG mv lf cb cm ps pl ts tb tl tr tS es eb el er eS rn rb rm rc un ub um uc sn sl sf ss si my mb mn ml mp mL mR oL oR oM mr mw mS hT hF hS hI hM _ _ _ hInv hw hl
      · refine lv_tableIn (off := 315) (tgt := 348) hx hb2 dL_law_33 (by decide) (by decide) (by decide) (by decide) ?_
        exact law_strings hL C0 hts2 hK hN i hi hG mv lf cb cm ps pl ts tb tl tr tS es eb el er eS rn rb rm rc un ub um uc sn sl sf ss si my mb mn ml mp mL mR oL oR oM mr mw mS hT hF hS hI hM _ _ _ hInv hw hl
      · refine lv_tableIn (off := 338) (tgt := 371) hx hb2 dL_law_33 (by decide) (by decide) (by decide) (by decide) ?_
        exact law_string hL C0 hts2 hK hN i hi hG mv lf cb cm ps pl ts tb tl tr tS es eb el er eS rn rb rm rc un ub um uc sn sl sf ss si my mb mn ml mp mL mR oL oR oM mr mw mS hT hF hS hI hM _ _ _ hInv hw hl
      · refine lv_tableIn (off := 371) (tgt := 404) hx hb2 dL_law_33 (by decide) (by decide) (by decide) (by decide) ?_
        exact law_leap hL C0 hts2 hK hN i hi hG mv lf cb cm ps pl ts tb tl tr tS es eb el er eS rn rb rm rc un ub um uc sn sl sf ss si my mb mn ml mp mL mR oL oR oM mr mw mS hT hF hS hI hM _ _ _ hInv hw hl
      · refine lv_tableIn (off := 404) (tgt := 437) hx hb2 dL_law_33 (by decide) (by decide) (by decide) (by decide) ?_
        exact law_ring hL C0 hts2 hK hN i hi hG mv lf cb cm ps pl ts tb tl tr tS es eb el er eS rn rb rm rc un ub um uc sn sl sf ss si my mb mn ml mp mL mR oL oR oM mr mw mS hT hF hS hI hM _ _ _ hInv hw hl
      · refine lv_tableIn (off := 437) (tgt := 470) hx hb2 dL_law_33 (by decide) (by decide) (by decide) (by decide) ?_
        exact law_ringAt hL C0 hts2 hK hN i hi hG mv lf cb cm ps pl ts tb tl tr tS es eb el er eS rn rb rm rc un ub um uc sn sl sf ss si my mb mn ml mp mL mR oL oR oM mr mw mS hT hF hS hI hM _ _ _ hInv hw hl
      · refine lv_tableIn (off := 460) (tgt := 493) hx hb2 dL_law_33 (by decide) (by decide) (by decide) (by decide) ?_
        exact law_turn hL C0 hts2 hK hN i hi hG mv lf cb cm ps pl ts tb tl tr tS es eb el er eS rn rb rm rc un ub um uc sn sl sf ss si my mb mn ml mp mL mR oL oR oM mr mw mS hT hF hS hI hM _ _ _ hInv hw hl
      · refine lv_tableIn (off := 483) (tgt := 516) hx hb2 dL_law_33 (by decide) (by decide) (by decide) (by decide) ?_
        exact law_period hL C0 hts2 hK hN i hi hG mv lf cb cm ps pl ts tb tl tr tS es eb el er eS rn rb rm rc un ub um uc sn sl sf ss si my mb mn ml mp mL mR oL oR oM mr mw mS hT hF hS hI hM _ _ _ hInv hw hl
      · refine lv_tableIn (off := 506) (tgt := 539) hx hb2 dL_law_33 (by decide) (by decide) (by decide) (by decide) ?_
        exact law_rings hL C0 hts2 hK hN i hi hG mv lf cb cm ps pl ts tb tl tr tS es eb el er eS rn rb rm rc un ub um uc sn sl sf ss si my mb mn ml mp mL mR oL oR oM mr mw mS hT hF hS hI hM _ _ _ hInv hw hl
      · refine lv_tableIn (off := 559) (tgt := 592) hx hb2 dL_law_33 (by decide) (by decide) (by decide) (by decide) ?_
        exact law_sheet hL C0 hts2 hK hN i hi hG mv lf cb cm ps pl ts tb tl tr tS es eb el er eS rn rb rm rc un ub um uc sn sl sf ss si my mb mn ml mp mL mR oL oR oM mr mw mS hT hF hS hI hM _ _ _ hInv hw hl
      · refine lv_tableIn (off := 602) (tgt := 635) hx hb2 dL_law_33 (by decide) (by decide) (by decide) (by decide) ?_
        exact law_lose hL C0 hts2 hK hN i hi hG mv lf cb cm ps pl ts tb tl tr tS es eb el er eS rn rb rm rc un ub um uc sn sl sf ss si my mb mn ml mp mL mR oL oR oM mr mw mS hT hF hS hI hM _ _ _ hInv hw hl
      · refine lv_tableIn (off := 625) (tgt := 658) hx hb2 dL_law_33 (by decide) (by decide) (by decide) (by decide) ?_
        exact law_put hL C0 hts2 hK hN i hi hG mv lf cb cm ps pl ts tb tl tr tS es eb el er eS rn rb rm rc un ub um uc sn sl sf ss si my mb mn ml mp mL mR oL oR oM mr mw mS hT hF hS hI hM _ _ _ hInv hw hl
      · refine lv_tableIn (off := 678) (tgt := 711) hx hb2 dL_law_33 (by decide) (by decide) (by decide) (by decide) ?_
        exact law_get hL C0 hts2 hK hN i hi hG mv lf cb cm ps pl ts tb tl tr tS es eb el er eS rn rb rm rc un ub um uc sn sl sf ss si my mb mn ml mp mL mR oL oR oM mr mw mS hT hF hS hI hM _ _ _ hInv hw hl
      · refine lv_tableIn (off := 721) (tgt := 754) hx hb2 dL_law_33 (by decide) (by decide) (by decide) (by decide) ?_
        exact law_copy hL C0 hts2 hK hN i hi hG mv lf cb cm ps pl ts tb tl tr tS es eb el er eS rn rb rm rc un ub um uc sn sl sf ss si my mb mn ml mp mL mR oL oR oM mr mw mS hT hF hS hI hM _ _ _ hInv hw hl
      · refine lv_tableIn (off := 784) (tgt := 817) hx hb2 dL_law_33 (by decide) (by decide) (by decide) (by decide) ?_
        exact law_load hL C0 hts2 hK hN i hi hG mv lf cb cm ps pl ts tb tl tr tS es eb el er eS rn rb rm rc un ub um uc sn sl sf ss si my mb mn ml mp mL mR oL oR oM mr mw mS hT hF hS hI hM _ _ _ hInv hw hl
      · refine lv_tableIn (off := 817) (tgt := 850) hx hb2 dL_law_33 (by decide) (by decide) (by decide) (by decide) ?_
        exact law_write hL C0 hts2 hK hN i hi hG mv lf cb cm ps pl ts tb tl tr tS es eb el er eS rn rb rm rc un ub um uc sn sl sf ss si my mb mn ml mp mL mR oL oR oM mr mw mS hT hF hS hI hM _ _ _ hInv hw hl
      · refine lv_tableIn (off := 850) (tgt := 883) hx hb2 dL_law_33 (by decide) (by decide) (by decide) (by decide) ?_
        exact law_count hL C0 hts2 hK hN i hi hG mv lf cb cm ps pl ts tb tl tr tS es eb el er eS rn rb rm rc un ub um uc sn sl sf ss si my mb mn ml mp mL mR oL oR oM mr mw mS hT hF hS hI hM _ _ _ hInv hw hl
      · refine lv_tableIn (off := 873) (tgt := 906) hx hb2 dL_law_33 (by decide) (by decide) (by decide) (by decide) ?_
        exact law_digest hL C0 hts2 hK hN i hi hG mv lf cb cm ps pl ts tb tl tr tS es eb el er eS rn rb rm rc un ub um uc sn sl sf ss si my mb mn ml mp mL mR oL oR oM mr mw mS hT hF hS hI hM _ _ _ hInv hw hl
      · refine lv_tableOut (tgt := 920) hx hb2 dL_law_33 (Or.inr (by rw [nI_toInt (by omega)]; omega)) (by decide) ?_
        exact hG mv lf cb cm ps pl ts tb tl tr tS es eb el er eS rn rb rm rc un ub um uc sn sl sf ss si my mb mn ml mp mL mR oL oR oM mr mw mS hT hF hS hI hM _ _ _ hInv hw hl
theorem nw_on : ∀ w ∈ nwL, w.onTables = true := by decide +kernel
theorem hfsX6 : ∀ j, j < 9 → defaultValue (tyX6 j) = vp_V [.null, .null, .null, .null, .null, .null, .null, .int 0, .int 0] j := fun j hj => by rcases (show j = 0 ∨ j = 1 ∨ j = 2 ∨ j = 3 ∨ j = 4 ∨ j = 5 ∨ j = 6 ∨ j = 7 ∨ j = 8 by omega) with rfl | rfl | rfl | rfl | rfl | rfl | rfl | rfl | rfl <;> rfl
theorem hfsX7 : ∀ j, j < 22 → defaultValue (tyX7 j) = vp_V [.null, .null, .int 0, .null, .null, .int 0, .null, .null, .int 0, .null, .null, .null, .int 0, .null, .null, .null, .null, .null, .null, .null, .null, .int 0] j := fun j hj => by rcases (show j = 0 ∨ j = 1 ∨ j = 2 ∨ j = 3 ∨ j = 4 ∨ j = 5 ∨ j = 6 ∨ j = 7 ∨ j = 8 ∨ j = 9 ∨ j = 10 ∨ j = 11 ∨ j = 12 ∨ j = 13 ∨ j = 14 ∨ j = 15 ∨ j = 16 ∨ j = 17 ∨ j = 18 ∨ j = 19 ∨ j = 20 ∨ j = 21 by omega) with rfl | rfl | rfl | rfl | rfl | rfl | rfl | rfl | rfl | rfl | rfl | rfl | rfl | rfl | rfl | rfl | rfl | rfl | rfl | rfl | rfl | rfl <;> rfl
theorem inv_0 : Inv (fun _ => 0) (fun _ => 0) (fun _ => 0) (fun _ => 0) (fun _ => 0) 0 0 (fun _ => 0) (fun _ => 0) (fun _ => 0) 1 0 (fun _ => 0) (fun _ => 1) (fun _ => 0) (fun _ => 0) (fun _ _ => 0) (fun _ => 0) (fun _ => 0) (fun _ => 0) (fun _ => 0) := by
  refine ⟨⟨fun _ => false, fun _ _ => rfl, fun _ _ => rfl⟩, ⟨0, by omega, rfl, fun i hi => by omega⟩, ⟨1, 0, by omega, by omega, rfl, rfl, by decide, fun k _ => by simp [bI]⟩, fun i _ => ⟨⟨false, rfl, rfl⟩, rfl, ⟨0, by omega, rfl, rfl⟩, fun _ _ => rfl⟩⟩
set_option maxHeartbeats 4000000 in
set_option maxRecDepth 100000 in
theorem whole_start {p : Program} {e : Env} {s : State} {m : MethodId} {below : List Frame} {meth : Method} {c : Code} (l : Launch) {b L : Nat} {xs : Nat → Int32} (hL : L ≤ 3072) (C0 : lw_At p s m meth c b L xs) : W p l e room_1 s m #[Value.ref b] below meth c s.heap [] 0 0 (lw_Z below #[Value.ref b] s) (entryFrame m ([Value.ref b] : List Value).toArray 4) := by
  obtain ⟨hx, hb, hr, hml, hown, hts, hX, hbl, hlocks, hgv⟩ := id C0
  have hts2 : ∀ w ∈ wsL_law, w.before #[Value.ref b] s = true := fun w hw => hts w (wsL_law_inn w hw)
  have S : CallFix p m c cL_law 4 s #[Value.ref b] wsL_law RL := ⟨hx, hb, hml, hown, hts2⟩
  have hb : c.code = cL_law := hb
  have hA : ∀ q : Nat, s.heap.size ≤ q → (fun q : Nat => s.heap.size ≤ q) q := fun _ h => h
  obtain ⟨k0, iS0, hKn0⟩ := u_known (C := RX0) (T := TX0) (N := 2) (n := 2) hts wsX00_in (hts _ ins_0)
  obtain ⟨k1, iS1, hKn1⟩ := u_known (C := RX1) (T := TX1) (N := 4) (n := 4) hts wsX10_in (hts _ ins_1)
  obtain ⟨k2, iS2, hKn2⟩ := u_known (C := RX2) (T := TX2) (N := 2) (n := 2) hts wsX20_in (hts _ ins_2)
  obtain ⟨k3, iS3, hKn3⟩ := u_known (C := RX3) (T := TX3) (N := 2) (n := 2) hts wsX30_in (hts _ ins_3)
  obtain ⟨k4, iS4, hKn4⟩ := u_known (C := RX4) (T := TX4) (N := 4) (n := 4) hts wsX40_in (hts _ ins_4)
  obtain ⟨k5, iS5, hKn5⟩ := u_known (C := RX5) (T := TX5) (N := 5) (n := 5) hts wsX50_in (hts _ ins_5)
  obtain ⟨k6, iS6, hKn6⟩ := u_known (C := RX6) (T := TX6) (N := 9) (n := 9) hts wsX60_in (hts _ ins_6)
  obtain ⟨k7, iS7, hKn7⟩ := u_known (C := RX7) (T := TX7) (N := 22) (n := 22) hts wsX70_in (hts _ ins_7)
  obtain ⟨D, hKc⟩ : ∃ D : va_G, ∀ (k : Nat) (q : vw_C), vwCl[k]? = some q → u_Kn s q.1 q.2.1 q.2.2 (D.1 k) (D.2 k) := by
    refine ⟨(fun k => if k = 0 then k0 else if k = 1 then k1 else if k = 2 then k2 else if k = 3 then k3 else if k = 4 then k4 else if k = 5 then k5 else if k = 6 then k6 else k7, fun k => if k = 0 then iS0 else if k = 1 then iS1 else if k = 2 then iS2 else if k = 3 then iS3 else if k = 4 then iS4 else if k = 5 then iS5 else if k = 6 then iS6 else iS7), ?_⟩
    intro k q hq
    match k, hq with
    | 0, hq => cases hq; exact hKn0
    | 1, hq => cases hq; exact hKn1
    | 2, hq => cases hq; exact hKn2
    | 3, hq => cases hq; exact hKn3
    | 4, hq => cases hq; exact hKn4
    | 5, hq => cases hq; exact hKn5
    | 6, hq => cases hq; exact hKn6
    | 7, hq => cases hq; exact hKn7
    | k + 8, hq => simp [vwCl] at hq
  obtain ⟨cI, kI, oI', fI1, fI2, fI3⟩ := Cond.arrayClass_spec (hts _ arr_I)
  obtain ⟨cZ, kZ, oZ, fZ1, fZ2, fZ3⟩ := Cond.arrayClass_spec (hts _ arr_Z)
  obtain ⟨cJ, kJ, oJ, fJ1, fJ2, fJ3⟩ := Cond.arrayClass_spec (hts _ arr_J)
  obtain ⟨oO, cO, kO, fO1, fO2, fO3, fO4, fO5⟩ := Cond.arrayOver_spec (hts _ arr_O)
  have hK : va_K D vwCl (TY cI cZ cJ cO) s := ⟨hKc, fun k q h => by
    match k, h with
    | 0, h => cases h; exact ⟨fun n z => ⟨(fun k h => by cases h), kI, fI2, oI', fI3⟩, fI1⟩
    | 1, h => cases h; exact ⟨fun n z => ⟨(fun k h => by cases h), kZ, fZ2, oZ, fZ3⟩, fZ1⟩
    | 2, h => cases h; exact ⟨fun n z => ⟨(fun k h => by cases h), kJ, fJ2, oJ, fJ3⟩, fJ1⟩
    | 3, h => cases h; exact ⟨fun n z => ⟨(fun k h => by cases h), kO, fO3, oO, fO4⟩, kO, oO, fO3, fO4, fO1, fO5⟩
    | k + 4, h => simp at h⟩
  have hN : NW s := ⟨fun w hw => va_Nw.of (nw_on w hw) (hts w (nwL_in w hw)), va_AO.of (hts _ arr_O)⟩
  have hw : Wd D (fun q : Nat => s.heap.size ≤ q) s.heap [] s.heap [] := ⟨fun k q h => by simp at h, ⟨fun i j p q h => by simp at h, fun k q h => by simp at h⟩, va_S.rf⟩
  have hl := lv_entry ([.ref b]) (n := 4) (Nat.le_of_ble_eq_true rfl)
  rw [lg_entry_eq]
  generalize (lg_sl ([.ref b]) ++ List.replicate (4 - (lg_sl ([.ref b])).length) Slot.unset).toArray = ls at hl ⊢
  have hl : lv_has ls 4 [(0, .ref b)] := hl
  refine g_new (ci := 6) (fs := [.null, .null, .null, .null, .null, .null, .null, .int 0, .int 0]) (C := RX6) (T := TX6) (N := 9) S inlX6 tyX6 tyX6_ok (by decide +kernel) (by decide +kernel) (by decide +kernel) hK hw hA rfl hfsX6 (Nat.le_of_ble_eq_true rfl) (Nat.le_of_ble_eq_true rfl) dL_law_0 (fun q1 H hw => ?_)
  have hw : Wd D (fun q : Nat => s.heap.size ≤ q) s.heap [(q1, .inr (6, [.null, .null, .null, .null, .null, .null, .null, .int 0, .int 0]))] H _ := hw
  refine W.widen (k := 1) (n := 9) (by decide) (by decide) ?_
  refine lv_dup hx hb dL_law_3 rfl ?_
  refine cl_n (wr := []) (ws2 := fun a : Nat → Nat => [(q1, .inr (6, [.ref (a 0), .ref (a 3), .ref (a 5), .ref (a 9), .ref (a 13), .ref (a 14), .ref (a 17), .int 0, .int 0])), ((a 0), .inr (3, [.ref (a 1), .ref (a 2)])), ((a 1), .inl (cI, 240, .inl (fun _ => 0))), ((a 2), .inl (cI, 240, .inl (fun _ => 0))), ((a 3), .inr (0, [.ref (a 4), .int 0])), ((a 4), .inl (cI, 240, .inl (fun _ => 0))), ((a 5), .inr (5, [.ref (a 6), .ref (a 7), .ref (a 8), .int 0, .int 0])), ((a 6), .inl (cI, 240, .inl (fun _ => 0))), ((a 7), .inl (cI, 240, .inl (fun _ => 0))), ((a 8), .inl (cI, 241, .inl (fun _ => 0))), ((a 9), .inr (5, [.ref (a 10), .ref (a 11), .ref (a 12), .int 0, .int 0])), ((a 10), .inl (cI, 240, .inl (fun _ => 0))), ((a 11), .inl (cI, 240, .inl (fun _ => 0))), ((a 12), .inl (cI, 241, .inl (fun _ => 0))), ((a 13), .inr (1, [.int (1 : Int32), .long 0, .long 0, .int 0])), ((a 14), .inr (2, [.ref (a 15), .ref (a 16)])), ((a 15), .inr (1, [.int (1 : Int32), .long 0, .long 0, .int 0])), ((a 16), .inl (cJ, 64, .inr (.inl (fun _ => 0)))), ((a 17), .inl (cO, 4, .inr (.inr (.inr (.inr (va_up (va_up (va_up (va_up (fun _ => none) (0 : Int32).toNatClampNeg (some (a 18))) (1 : Int32).toNatClampNeg (some (a 20))) (2 : Int32).toNatClampNeg (some (a 22))) (3 : Int32).toNatClampNeg (some (a 24)))))))), ((a 18), .inr (4, [.ref (a 19), .int (1 : Int32), .int 0, .int 0])), ((a 19), .inl (cI, 100, .inl (fun _ => 0))), ((a 20), .inr (4, [.ref (a 21), .int (1 : Int32), .int 0, .int 0])), ((a 21), .inl (cI, 100, .inl (fun _ => 0))), ((a 22), .inr (4, [.ref (a 23), .int (1 : Int32), .int 0, .int 0])), ((a 23), .inl (cI, 100, .inl (fun _ => 0))), ((a 24), .inr (4, [.ref (a 25), .int (1 : Int32), .int 0, .int 0])), ((a 25), .inl (cI, 100, .inl (fun _ => 0)))]) hA hw [0] [] [0, 1, 2, 3, 4, 5, 6, 7, 8, 9, 10, 11, 12, 13, 14, 15, 16, 17, 18, 19, 20, 21, 22, 23, 24, 25, 26] rfl rfl rfl (by decide) (fun _ => rfl) rfl (va_runI (As := []) (rest := [.ref q1]) S (n_X6_init l D cI cZ cJ cO _ q1) (cwI 0 hts2 gL_law_X6_init rfl rfl rfl (hts2 (.initialized RX6) (by decide +kernel)) (hts2 (.methodLink RL 9 yX6_init) (by decide +kernel)) (hts2 (.instanceMethod yX6_init) (by decide +kernel)) rfl (by decide +kernel) ⟨Nat.le_of_ble_eq_true rfl, Nat.le_of_ble_eq_true rfl⟩) (pre_S (As := [.ref q1]) hK hN hw [0] rfl rfl) rfl rfl hl.1 rfl (lv_room (Nat.le_of_ble_eq_true rfl)) dL_law_4 ⟨Nat.le_of_ble_eq_true rfl, Nat.le_of_ble_eq_true rfl⟩) (fun a H locs hw => ?_)
  refine W.widen (k := 27) (n := 2679) (by decide) (by decide) ?_
  refine lv_astore_n (lv' := [(1, .ref q1), (0, .ref b)]) hx hb dL_law_7 rfl hl (by decide) rfl (fun ls hl => ?_)
  refine g_new (ci := 7) (fs := [.null, .null, .int 0, .null, .null, .int 0, .null, .null, .int 0, .null, .null, .null, .int 0, .null, .null, .null, .null, .null, .null, .null, .null, .int 0]) (C := RX7) (T := TX7) (N := 22) S inlX7 tyX7 tyX7_ok (by decide +kernel) (by decide +kernel) (by decide +kernel) hK hw hA rfl hfsX7 (Nat.le_of_ble_eq_true rfl) (Nat.le_of_ble_eq_true rfl) dL_law_8 (fun q2 H hw => ?_)
  refine W.widen (k := 28) (n := 2701) (by decide) (by decide) ?_
  refine lv_dup hx hb dL_law_11 rfl ?_
  refine cl_n (wr := [(q1, .inr (6, [.ref (a 0), .ref (a 3), .ref (a 5), .ref (a 9), .ref (a 13), .ref (a 14), .ref (a 17), .int 0, .int 0])), ((a 0), .inr (3, [.ref (a 1), .ref (a 2)])), ((a 1), .inl (cI, 240, .inl (fun _ => 0))), ((a 2), .inl (cI, 240, .inl (fun _ => 0))), ((a 3), .inr (0, [.ref (a 4), .int 0])), ((a 4), .inl (cI, 240, .inl (fun _ => 0))), ((a 5), .inr (5, [.ref (a 6), .ref (a 7), .ref (a 8), .int 0, .int 0])), ((a 6), .inl (cI, 240, .inl (fun _ => 0))), ((a 7), .inl (cI, 240, .inl (fun _ => 0))), ((a 8), .inl (cI, 241, .inl (fun _ => 0))), ((a 9), .inr (5, [.ref (a 10), .ref (a 11), .ref (a 12), .int 0, .int 0])), ((a 10), .inl (cI, 240, .inl (fun _ => 0))), ((a 11), .inl (cI, 240, .inl (fun _ => 0))), ((a 12), .inl (cI, 241, .inl (fun _ => 0))), ((a 13), .inr (1, [.int (1 : Int32), .long 0, .long 0, .int 0])), ((a 14), .inr (2, [.ref (a 15), .ref (a 16)])), ((a 15), .inr (1, [.int (1 : Int32), .long 0, .long 0, .int 0])), ((a 16), .inl (cJ, 64, .inr (.inl (fun _ => 0)))), ((a 17), .inl (cO, 4, .inr (.inr (.inr (.inr (va_up (va_up (va_up (va_up (fun _ => none) (0 : Int32).toNatClampNeg (some (a 18))) (1 : Int32).toNatClampNeg (some (a 20))) (2 : Int32).toNatClampNeg (some (a 22))) (3 : Int32).toNatClampNeg (some (a 24)))))))), ((a 18), .inr (4, [.ref (a 19), .int (1 : Int32), .int 0, .int 0])), ((a 19), .inl (cI, 100, .inl (fun _ => 0))), ((a 20), .inr (4, [.ref (a 21), .int (1 : Int32), .int 0, .int 0])), ((a 21), .inl (cI, 100, .inl (fun _ => 0))), ((a 22), .inr (4, [.ref (a 23), .int (1 : Int32), .int 0, .int 0])), ((a 23), .inl (cI, 100, .inl (fun _ => 0))), ((a 24), .inr (4, [.ref (a 25), .int (1 : Int32), .int 0, .int 0])), ((a 25), .inl (cI, 100, .inl (fun _ => 0)))]) (ws2 := fun d : Nat → Nat => [(q1, .inr (6, [.ref (a 0), .ref (a 3), .ref (a 5), .ref (a 9), .ref (a 13), .ref (a 14), .ref (a 17), .int 0, .int 0])), ((a 0), .inr (3, [.ref (a 1), .ref (a 2)])), ((a 1), .inl (cI, 240, .inl (fun _ => 0))), ((a 2), .inl (cI, 240, .inl (fun _ => 0))), ((a 3), .inr (0, [.ref (a 4), .int 0])), ((a 4), .inl (cI, 240, .inl (fun _ => 0))), ((a 5), .inr (5, [.ref (a 6), .ref (a 7), .ref (a 8), .int 0, .int 0])), ((a 6), .inl (cI, 240, .inl (fun _ => 0))), ((a 7), .inl (cI, 240, .inl (fun _ => 0))), ((a 8), .inl (cI, 241, .inl (fun _ => 0))), ((a 9), .inr (5, [.ref (a 10), .ref (a 11), .ref (a 12), .int 0, .int 0])), ((a 10), .inl (cI, 240, .inl (fun _ => 0))), ((a 11), .inl (cI, 240, .inl (fun _ => 0))), ((a 12), .inl (cI, 241, .inl (fun _ => 0))), ((a 13), .inr (1, [.int (1 : Int32), .long 0, .long 0, .int 0])), ((a 14), .inr (2, [.ref (a 15), .ref (a 16)])), ((a 15), .inr (1, [.int (1 : Int32), .long 0, .long 0, .int 0])), ((a 16), .inl (cJ, 64, .inr (.inl (fun _ => 0)))), ((a 17), .inl (cO, 4, .inr (.inr (.inr (.inr (va_up (va_up (va_up (va_up (fun _ => none) (0 : Int32).toNatClampNeg (some (a 18))) (1 : Int32).toNatClampNeg (some (a 20))) (2 : Int32).toNatClampNeg (some (a 22))) (3 : Int32).toNatClampNeg (some (a 24)))))))), ((a 18), .inr (4, [.ref (a 19), .int (1 : Int32), .int 0, .int 0])), ((a 19), .inl (cI, 100, .inl (fun _ => 0))), ((a 20), .inr (4, [.ref (a 21), .int (1 : Int32), .int 0, .int 0])), ((a 21), .inl (cI, 100, .inl (fun _ => 0))), ((a 22), .inr (4, [.ref (a 23), .int (1 : Int32), .int 0, .int 0])), ((a 23), .inl (cI, 100, .inl (fun _ => 0))), ((a 24), .inr (4, [.ref (a 25), .int (1 : Int32), .int 0, .int 0])), ((a 25), .inl (cI, 100, .inl (fun _ => 0)))] ++ [(q2, .inr (7, [.ref (d 0), .ref (d 1), .int 0, .ref (d 2), .ref (d 3), .int 0, .ref (d 4), .ref (d 5), .int 0, .ref (d 6), .ref (d 7), .ref (d 8), .int (1 : Int32), .ref (d 9), .ref (d 10), .ref (d 11), .ref (d 12), .ref (d 13), .ref (d 14), .ref (d 15), .ref (d 16), .int 0])), ((d 0), .inl (cZ, 240, .inl (fun _ => 0))), ((d 1), .inl (cZ, 240, .inl (fun _ => 0))), ((d 2), .inl (cZ, 240, .inl (fun _ => 0))), ((d 3), .inl (cI, 240, .inl (fun _ => 0))), ((d 4), .inl (cI, 241, .inl (fun _ => 0))), ((d 5), .inl (cI, 241, .inl (fun _ => 0))), ((d 6), .inl (cI, 241, .inl (fun _ => 0))), ((d 7), .inl (cI, 241, .inl (fun _ => 0))), ((d 8), .inl (cI, 241, .inl (fun _ => 0))), ((d 9), .inl (cZ, 40, .inl (fun _ => 0))), ((d 10), .inl (cZ, 40, .inl (fun _ => 0))), ((d 11), .inl (cZ, 40, .inl (fun _ => 0))), ((d 12), .inl (cZ, 4, .inl (fun _ => 0))), ((d 13), .inl (cI, 4, .inl (fun _ => 0))), ((d 14), .inl (cI, 4, .inl (fun _ => 0))), ((d 15), .inl (cI, 400, .inl (fun _ => 0))), ((d 16), .inl (cI, 100, .inl (fun _ => 0)))]) hA hw [27] [0, 1, 2, 3, 4, 5, 6, 7, 8, 9, 10, 11, 12, 13, 14, 15, 16, 17, 18, 19, 20, 21, 22, 23, 24, 25, 26] [0, 1, 2, 3, 4, 5, 6, 7, 8, 9, 10, 11, 12, 13, 14, 15, 16, 17, 18, 19, 20, 21, 22, 23, 24, 25, 26, 27, 28, 29, 30, 31, 32, 33, 34, 35, 36, 37, 38, 39, 40, 41, 42, 43, 44] rfl rfl rfl (by decide) (fun _ => rfl) rfl (va_runI (As := []) (rest := [.ref q2]) S (n_X7_init l D cI cZ cJ cO _ q2) (cwI 0 hts2 gL_law_X7_init rfl rfl rfl (hts2 (.initialized RX7) (by decide +kernel)) (hts2 (.methodLink RL 12 yX7_init) (by decide +kernel)) (hts2 (.instanceMethod yX7_init) (by decide +kernel)) rfl (by decide +kernel) ⟨Nat.le_of_ble_eq_true rfl, Nat.le_of_ble_eq_true rfl⟩) (pre_S (As := [.ref q2]) hK hN hw [27] rfl rfl) rfl rfl hl.1 rfl (lv_room (Nat.le_of_ble_eq_true rfl)) dL_law_12 ⟨Nat.le_of_ble_eq_true rfl, Nat.le_of_ble_eq_true rfl⟩) (fun d H locs hw => ?_)
  refine W.widen (k := 45) (n := 5498) (by decide) (by decide) ?_
  refine lv_astore_n (lv' := [(2, .ref q2), (1, .ref q1), (0, .ref b)]) hx hb dL_law_15 rfl hl (by decide) rfl (fun ls hl => ?_)
  refine lv_iconst (v := (0 : Int32)) hx hb dL_law_16 (by decide) ?_
  refine lv_istore_n (lv' := [(3, .int (0 : Int32)), (2, .ref q2), (1, .ref q1), (0, .ref b)]) hx hb dL_law_17 rfl hl (by decide) rfl (fun ls hl => ?_)
  exact law_loop (qx := q1) (qm := q2) (a := a) (d := d) hL C0 hts2 hK hN (L + 1) 0 (Nat.zero_le L) (by omega) 0 0 (fun _ => 0) (fun _ => 0) 0 (fun _ => 0) 0 0 (fun _ => 0) (fun _ => 0) (fun _ => 0) 0 0 (fun _ => 0) (fun _ => 0) (fun _ => 0) 1 0 0 0 1 0 0 0 (fun _ => 0) (fun _ => 1) (fun _ => 0) (fun _ => 0) (fun _ _ => 0) 0 (fun _ => 0) (fun _ => 0) (fun _ => 0) (fun _ => 0) (fun _ => 0) (fun _ => 0) (fun _ => 0) (fun _ => 0) (fun _ => 0) (fun _ => 0) (fun _ => 0) (fun _ => 0) (fun _ => 0) (fun _ => 0) (fun _ => 0) (fun _ => 0) (fun _ => 0) _ _ _ inv_0 hw (lv_sub hl [3, 2, 1, 0] rfl)
