set_option maxHeartbeats 4000000 in
set_option maxRecDepth 100000 in
theorem law_copy {p : Program} {l : Launch} {e : Env} {s : State} {m : MethodId} {below : List Frame} {meth : Method} {c : Code} {D : va_G} {cI cZ cJ cO : ClassId} {b L qx qm : Nat} {a d : Nat → Nat} {xs : Nat → Int32} (hL : L ≤ 3072) (C0 : lw_At p s m meth c b L xs) (hts2 : ∀ w ∈ wsL_law, w.before #[Value.ref b] s = true) (hK : va_K D vwCl (TY cI cZ cJ cO) s) (hN : NW s) (i : Nat) (hi : i + 6 ≤ L) (hG : LGoal p l e s m below meth c D cI cZ cJ cO b qx qm a d i) (mv : Int32) (lf : Int32) (cb : (Nat → Int32)) (cm : (Nat → Int32)) (ps : Int32) (pl : (Nat → Int32)) (ts : Int32) (tb : Int32) (tl : (Nat → Int32)) (tr : (Nat → Int32)) (tS : (Nat → Int32)) (es : Int32) (eb : Int32) (el : (Nat → Int32)) (er : (Nat → Int32)) (eS : (Nat → Int32)) (rn : Int32) (rb : Int64) (rm : Int64) (rc : Int32) (un : Int32) (ub : Int64) (um : Int64) (uc : Int32) (sn : (Nat → Int64)) (sl : (Nat → Int32)) (sf : (Nat → Int32)) (ss : (Nat → Int32)) (si : (Nat → Nat → Int32)) (my : Int32) (mb : (Nat → Int32)) (mn : (Nat → Int32)) (ml : (Nat → Int32)) (mp : (Nat → Int32)) (mL : (Nat → Int32)) (mR : (Nat → Int32)) (oL : (Nat → Int32)) (oR : (Nat → Int32)) (oM : (Nat → Int32)) (mr : (Nat → Int32)) (mw : (Nat → Int32)) (mS : (Nat → Int32)) (hT : (Nat → Int32)) (hF : (Nat → Int32)) (hS : (Nat → Int32)) (hI : (Nat → Int32)) (hM : (Nat → Int32)) (H : Heap) (locs : List Loc) (ls : Array Slot) (hInv : (Inv cb mb tl tr tS ts tb oL oR oM rn rb mr sl sf ss si hT hF hS hI)) (hw : Wd D (fun q : Nat => s.heap.size ≤ q) s.heap (LW cI cZ cJ cO qx qm a d mv lf cb cm ps pl ts tb tl tr tS es eb el er eS rn rb rm rc un ub um uc sn sl sf ss si mv lf my ts rn mb mn ml mp mL mR oL oR oM mr mw mS hT hF hS hI hM) H locs) (hl : lv_has ls 4 [(0, .ref b), (1, .ref qx), (2, .ref qm), (3, .int (nI i))]) : W p l e room_1 s m #[Value.ref b] below meth c H locs 45 5498 (lw_Z below #[Value.ref b] s) (F0 m 754 ls []) := by
  obtain ⟨hx, hb, hr, hml, hown, hts, hX, hbl, hlocks, hgv⟩ := id C0
  obtain ⟨hB, hS_, hR, hH⟩ := id hInv
  have hA : ∀ q : Nat, s.heap.size ≤ q → (fun q : Nat => s.heap.size ≤ q) q := fun _ h => h
  have hbA : ¬ (fun q : Nat => s.heap.size ≤ q) b := Nat.not_le.mpr hbl
  have S : CallFix p m c cL_law 4 s #[Value.ref b] wsL_law RL := ⟨hx, hb, hml, hown, hts2⟩
  have hb : c.code = cL_law := hb
  have h_1 : vp_in (nI i + (1 : Int32)) L := by rw [show nI i + (1 : Int32) = nI (i + 1) from nI_add i 1]; exact vp_in_nI (by omega) (by omega)
  have h_2 : vp_in (nI i + (2 : Int32)) L := by rw [show nI i + (2 : Int32) = nI (i + 2) from nI_add i 2]; exact vp_in_nI (by omega) (by omega)
  have h_3 : vp_in (nI i + (3 : Int32)) L := by rw [show nI i + (3 : Int32) = nI (i + 3) from nI_add i 3]; exact vp_in_nI (by omega) (by omega)
  have h_4 : vp_in (nI i + (4 : Int32)) L := by rw [show nI i + (4 : Int32) = nI (i + 4) from nI_add i 4]; exact vp_in_nI (by omega) (by omega)
  have h_5 : vp_in (nI i + (5 : Int32)) L := by rw [show nI i + (5 : Int32) = nI (i + 5) from nI_add i 5]; exact vp_in_nI (by omega) (by omega)
  rcases sheet_or (xs (nI i + (1 : Int32)).toNatClampNeg) with ⟨k, hk, e⟩ | ⟨e, eN⟩
  · rcases sheet_or (xs (nI i + (3 : Int32)).toNatClampNeg) with ⟨k2, hk2, e3⟩ | ⟨e3, eN3⟩
    · rcases (show k = 0 ∨ k = 1 ∨ k = 2 ∨ k = 3 by omega) with rfl | rfl | rfl | rfl
      · exact law_copy_0 hL C0 hts2 hK hN i hi hG mv lf cb cm ps pl ts tb tl tr tS es eb el er eS rn rb rm rc un ub um uc sn sl sf ss si my mb mn ml mp mL mR oL oR oM mr mw mS hT hF hS hI hM _ _ _ e k2 hk2 e3 hInv hw hl
      · exact law_copy_1 hL C0 hts2 hK hN i hi hG mv lf cb cm ps pl ts tb tl tr tS es eb el er eS rn rb rm rc un ub um uc sn sl sf ss si my mb mn ml mp mL mR oL oR oM mr mw mS hT hF hS hI hM _ _ _ e k2 hk2 e3 hInv hw hl
      · exact law_copy_2 hL C0 hts2 hK hN i hi hG mv lf cb cm ps pl ts tb tl tr tS es eb el er eS rn rb rm rc un ub um uc sn sl sf ss si my mb mn ml mp mL mR oL oR oM mr mw mS hT hF hS hI hM _ _ _ e k2 hk2 e3 hInv hw hl
      · exact law_copy_3 hL C0 hts2 hK hN i hi hG mv lf cb cm ps pl ts tb tl tr tS es eb el er eS rn rb rm rc un ub um uc sn sl sf ss si my mb mn ml mp mL mR oL oR oM mr mw mS hT hF hS hI hM _ _ _ e k2 hk2 e3 hInv hw hl
    · obtain ⟨q9, hs0⟩ := sh_ex hk e a
      have hs1 : shOf (xs (nI i + (3 : Int32)).toNatClampNeg) (gSh a) = none := eN3 (gSh a)
      obtain ⟨r, hr9⟩ : ∃ r : Int32, (-2 : Int32) = r := ⟨_, rfl⟩
      have e2 : f_X7_copy 25000 (xs (nI i + (1 : Int32)).toNatClampNeg) (xs (nI i + (2 : Int32)).toNatClampNeg) (xs (nI i + (3 : Int32)).toNatClampNeg) (xs (nI i + (4 : Int32)).toNatClampNeg) (xs (nI i + (5 : Int32)).toNatClampNeg) lf hT hF hS hI hM = some (r, lf, hI, hM) := by unfold f_X7_copy; rw [show f_X7_isSheet 25000 (xs (nI i + (1 : Int32)).toNatClampNeg) = some 1 by rw [e]; exact isSheet_in hk 25000, bd1_t, if_neg i1n0, e3, bd1_t, if_pos rfl, hr9]
      refine lv_aload_n hx hb dL_law_754 rfl (lv_at hl 1 rfl) ?_
      refine lv_aload_n hx hb dL_law_755 rfl (lv_at hl 0 rfl) ?_
      refine lv_iload_n hx hb dL_law_756 rfl (lv_at hl 3 rfl) ?_
      refine lv_iconst (v := (1 : Int32)) hx hb dL_law_757 (by decide) ?_
      refine lv_iadd hx hb dL_law_758 ?_
      refine va_sld hx hb hX hbl hbA hw.2.2 h_1 dL_law_759 ?_
      refine lv_aload_n hx hb dL_law_760 rfl (lv_at hl 0 rfl) ?_
      refine lv_iload_n hx hb dL_law_761 rfl (lv_at hl 3 rfl) ?_
      refine lv_iconst (v := (2 : Int32)) hx hb dL_law_762 (by decide) ?_
      refine lv_iadd hx hb dL_law_763 ?_
      refine va_sld hx hb hX hbl hbA hw.2.2 h_2 dL_law_764 ?_
      refine lv_aload_n hx hb dL_law_765 rfl (lv_at hl 0 rfl) ?_
      refine lv_iload_n hx hb dL_law_766 rfl (lv_at hl 3 rfl) ?_
      refine lv_iconst (v := (3 : Int32)) hx hb dL_law_767 (by decide) ?_
      refine lv_iadd hx hb dL_law_768 ?_
      refine va_sld hx hb hX hbl hbA hw.2.2 h_3 dL_law_769 ?_
      refine lv_aload_n hx hb dL_law_770 rfl (lv_at hl 0 rfl) ?_
      refine lv_iload_n hx hb dL_law_771 rfl (lv_at hl 3 rfl) ?_
      refine lv_iconst (v := (4 : Int32)) hx hb dL_law_772 (by decide) ?_
      refine lv_iadd hx hb dL_law_773 ?_
      refine va_sld hx hb hX hbl hbA hw.2.2 h_4 dL_law_774 ?_
      refine lv_aload_n hx hb dL_law_775 rfl (lv_at hl 0 rfl) ?_
      refine lv_iload_n hx hb dL_law_776 rfl (lv_at hl 3 rfl) ?_
      refine lv_iconst (v := (5 : Int32)) hx hb dL_law_777 (by decide) ?_
      refine lv_iadd hx hb dL_law_778 ?_
      refine va_sld hx hb hX hbl hbA hw.2.2 h_5 dL_law_779 ?_
      refine cl_i (wr := pick (LW cI cZ cJ cO qx qm a d mv lf cb cm ps pl ts tb tl tr tS es eb el er eS rn rb rm rc un ub um uc sn sl sf ss si mv lf my ts rn mb mn ml mp mL mR oL oR oM mr mw mS hT hF hS hI hM) [1, 2, 3, 4, 5, 6, 7, 8, 9, 10, 11, 12, 13, 14, 15, 16, 17, 19, 20, 21, 22, 23, 24, 25, 26, 27, 28, 29, 30, 31, 32, 33, 34, 35, 36, 37, 38, 39, 40, 41, 42, 43, 44]) (ws' := (LW cI cZ cJ cO qx qm a d mv lf cb cm ps pl ts tb tl tr tS es eb el er eS rn rb rm rc un ub um uc sn sl sf ss si mv lf my ts rn mb mn ml mp mL mR oL oR oM mr mw mS hT hF hS hI hM)) hA hw [0, 18] [1, 2, 3, 4, 5, 6, 7, 8, 9, 10, 11, 12, 13, 14, 15, 16, 17, 19, 20, 21, 22, 23, 24, 25, 26, 27, 28, 29, 30, 31, 32, 33, 34, 35, 36, 37, 38, 39, 40, 41, 42, 43, 44] [43, 0, 1, 2, 3, 4, 5, 6, 7, 8, 9, 10, 11, 12, 13, 14, 15, 16, 44, 17, 18, 19, 20, 21, 22, 23, 24, 25, 26, 27, 28, 29, 30, 31, 32, 33, 34, 35, 36, 37, 38, 39, 40, 41, 42] rfl rfl rfl (by decide) rfl rfl (va_runV (As := [.int (xs (nI i + (1 : Int32)).toNatClampNeg), .int (xs (nI i + (2 : Int32)).toNatClampNeg), .int (xs (nI i + (3 : Int32)).toNatClampNeg), .int (xs (nI i + (4 : Int32)).toNatClampNeg), .int (xs (nI i + (5 : Int32)).toNatClampNeg)]) (rest := []) S (c_X6_copy_S_n l D cI cZ cJ cO _ q9 qx (a 0) (a 3) (a 5) (a 9) (a 13) (a 14) (a 17) 25000 (xs (nI i + (1 : Int32)).toNatClampNeg) (xs (nI i + (2 : Int32)).toNatClampNeg) (xs (nI i + (3 : Int32)).toNatClampNeg) (xs (nI i + (4 : Int32)).toNatClampNeg) (xs (nI i + (5 : Int32)).toNatClampNeg) mv lf (gSh a) r hs0 hs1  (congrArg some hr9)) (cwV 5 hts2 gL_law_X6_copy rfl rfl rfl (by decide +kernel) ⟨Nat.le_of_ble_eq_true rfl, Nat.le_of_ble_eq_true rfl⟩) (pre_V hK hN hw [0, 18] rfl rfl (C := RX6) (T := TX6) (N := 9) (ci := 6) (q0 := 0) rfl rfl) rfl rfl hl.1 rfl (lv_room (Nat.le_of_ble_eq_true rfl)) dL_law_780 ⟨Nat.le_of_ble_eq_true rfl, Nat.le_of_ble_eq_true rfl⟩) (fun H locs hw => ?_)
      refine lv_aload_n hx hb dL_law_783 rfl (lv_at hl 2 rfl) ?_
      refine lv_aload_n hx hb dL_law_784 rfl (lv_at hl 0 rfl) ?_
      refine lv_iload_n hx hb dL_law_785 rfl (lv_at hl 3 rfl) ?_
      refine lv_iconst (v := (1 : Int32)) hx hb dL_law_786 (by decide) ?_
      refine lv_iadd hx hb dL_law_787 ?_
      refine va_sld hx hb hX hbl hbA hw.2.2 h_1 dL_law_788 ?_
      refine lv_aload_n hx hb dL_law_789 rfl (lv_at hl 0 rfl) ?_
      refine lv_iload_n hx hb dL_law_790 rfl (lv_at hl 3 rfl) ?_
      refine lv_iconst (v := (2 : Int32)) hx hb dL_law_791 (by decide) ?_
      refine lv_iadd hx hb dL_law_792 ?_
      refine va_sld hx hb hX hbl hbA hw.2.2 h_2 dL_law_793 ?_
      refine lv_aload_n hx hb dL_law_794 rfl (lv_at hl 0 rfl) ?_
      refine lv_iload_n hx hb dL_law_795 rfl (lv_at hl 3 rfl) ?_
      refine lv_iconst (v := (3 : Int32)) hx hb dL_law_796 (by decide) ?_
      refine lv_iadd hx hb dL_law_797 ?_
      refine va_sld hx hb hX hbl hbA hw.2.2 h_3 dL_law_798 ?_
      refine lv_aload_n hx hb dL_law_799 rfl (lv_at hl 0 rfl) ?_
      refine lv_iload_n hx hb dL_law_800 rfl (lv_at hl 3 rfl) ?_
      refine lv_iconst (v := (4 : Int32)) hx hb dL_law_801 (by decide) ?_
      refine lv_iadd hx hb dL_law_802 ?_
      refine va_sld hx hb hX hbl hbA hw.2.2 h_4 dL_law_803 ?_
      refine lv_aload_n hx hb dL_law_804 rfl (lv_at hl 0 rfl) ?_
      refine lv_iload_n hx hb dL_law_805 rfl (lv_at hl 3 rfl) ?_
      refine lv_iconst (v := (5 : Int32)) hx hb dL_law_806 (by decide) ?_
      refine lv_iadd hx hb dL_law_807 ?_
      refine va_sld hx hb hX hbl hbA hw.2.2 h_5 dL_law_808 ?_
      refine cl_i (wr := pick (LW cI cZ cJ cO qx qm a d mv lf cb cm ps pl ts tb tl tr tS es eb el er eS rn rb rm rc un ub um uc sn sl sf ss si mv lf my ts rn mb mn ml mp mL mR oL oR oM mr mw mS hT hF hS hI hM) [0, 1, 2, 3, 4, 5, 6, 7, 8, 9, 10, 11, 12, 13, 14, 15, 16, 17, 18, 19, 20, 21, 22, 23, 24, 25, 26, 28, 29, 30, 31, 32, 33, 34, 35, 36, 37, 38, 39]) (ws' := (LW cI cZ cJ cO qx qm a d mv lf cb cm ps pl ts tb tl tr tS es eb el er eS rn rb rm rc un ub um uc sn sl sf ss si mv lf my ts rn mb mn ml mp mL mR oL oR oM mr mw mS hT hF hS hI hM)) hA hw [27, 40, 41, 42, 43, 44] [0, 1, 2, 3, 4, 5, 6, 7, 8, 9, 10, 11, 12, 13, 14, 15, 16, 17, 18, 19, 20, 21, 22, 23, 24, 25, 26, 28, 29, 30, 31, 32, 33, 34, 35, 36, 37, 38, 39] [0, 1, 2, 3, 4, 5, 6, 7, 8, 9, 10, 11, 12, 13, 14, 15, 16, 17, 18, 19, 20, 21, 22, 23, 24, 25, 26, 39, 27, 28, 29, 30, 31, 32, 33, 34, 35, 36, 37, 38, 40, 41, 42, 43, 44] rfl rfl rfl (by decide) rfl rfl (va_runV (As := [.int (xs (nI i + (1 : Int32)).toNatClampNeg), .int (xs (nI i + (2 : Int32)).toNatClampNeg), .int (xs (nI i + (3 : Int32)).toNatClampNeg), .int (xs (nI i + (4 : Int32)).toNatClampNeg), .int (xs (nI i + (5 : Int32)).toNatClampNeg)]) (rest := [.int r]) S (c_X7_copy l D cI cZ cJ cO _ qm (d 0) (d 1) (d 2) (d 3) (d 4) (d 5) (d 6) (d 7) (d 8) (d 9) (d 10) (d 11) (d 12) (d 13) (d 14) (d 15) (d 16) 25000 (xs (nI i + (1 : Int32)).toNatClampNeg) (xs (nI i + (2 : Int32)).toNatClampNeg) (xs (nI i + (3 : Int32)).toNatClampNeg) (xs (nI i + (4 : Int32)).toNatClampNeg) (xs (nI i + (5 : Int32)).toNatClampNeg) mv my ts rn lf hT hF hS hI hM r lf hI hM  e2) (cwV 5 hts2 gL_law_X7_copy rfl rfl rfl (by decide +kernel) ⟨Nat.le_of_ble_eq_true rfl, Nat.le_of_ble_eq_true rfl⟩) (pre_V hK hN hw [27, 40, 41, 42, 43, 44] rfl rfl (C := RX7) (T := TX7) (N := 22) (ci := 7) (q0 := 0) rfl rfl) rfl rfl hl.1 rfl (lv_room (Nat.le_of_ble_eq_true rfl)) dL_law_809 ⟨Nat.le_of_ble_eq_true rfl, Nat.le_of_ble_eq_true rfl⟩) (fun H locs hw => ?_)
      refine lv_icmp_eq (tgt := 920) hx hb dL_law_812 (by decide) (fun _ => ?_) (fun c9 => absurd rfl c9)
      exact hG mv lf cb cm ps pl ts tb tl tr tS es eb el er eS rn rb rm rc un ub um uc sn sl sf ss si my mb mn ml mp mL mR oL oR oM mr mw mS hT hF hS hI hM _ _ _ ⟨hB, hS_, hR, hH⟩ hw hl
  · rcases sheet_or (xs (nI i + (3 : Int32)).toNatClampNeg) with ⟨k2, hk2, e3⟩ | ⟨e3, eN3⟩
    · have hs0 : shOf (xs (nI i + (1 : Int32)).toNatClampNeg) (gSh a) = none := eN (gSh a)
      obtain ⟨q9, hs1⟩ := sh_ex hk2 e3 a
      obtain ⟨r, hr9⟩ : ∃ r : Int32, (-2 : Int32) = r := ⟨_, rfl⟩
      have e2 : f_X7_copy 25000 (xs (nI i + (1 : Int32)).toNatClampNeg) (xs (nI i + (2 : Int32)).toNatClampNeg) (xs (nI i + (3 : Int32)).toNatClampNeg) (xs (nI i + (4 : Int32)).toNatClampNeg) (xs (nI i + (5 : Int32)).toNatClampNeg) lf hT hF hS hI hM = some (r, lf, hI, hM) := by unfold f_X7_copy; rw [e, bd1_t, if_pos rfl, hr9]
      refine lv_aload_n hx hb dL_law_754 rfl (lv_at hl 1 rfl) ?_
      refine lv_aload_n hx hb dL_law_755 rfl (lv_at hl 0 rfl) ?_
      refine lv_iload_n hx hb dL_law_756 rfl (lv_at hl 3 rfl) ?_
      refine lv_iconst (v := (1 : Int32)) hx hb dL_law_757 (by decide) ?_
      refine lv_iadd hx hb dL_law_758 ?_
      refine va_sld hx hb hX hbl hbA hw.2.2 h_1 dL_law_759 ?_
      refine lv_aload_n hx hb dL_law_760 rfl (lv_at hl 0 rfl) ?_
      refine lv_iload_n hx hb dL_law_761 rfl (lv_at hl 3 rfl) ?_
      refine lv_iconst (v := (2 : Int32)) hx hb dL_law_762 (by decide) ?_
      refine lv_iadd hx hb dL_law_763 ?_
      refine va_sld hx hb hX hbl hbA hw.2.2 h_2 dL_law_764 ?_
      refine lv_aload_n hx hb dL_law_765 rfl (lv_at hl 0 rfl) ?_
      refine lv_iload_n hx hb dL_law_766 rfl (lv_at hl 3 rfl) ?_
      refine lv_iconst (v := (3 : Int32)) hx hb dL_law_767 (by decide) ?_
      refine lv_iadd hx hb dL_law_768 ?_
      refine va_sld hx hb hX hbl hbA hw.2.2 h_3 dL_law_769 ?_
      refine lv_aload_n hx hb dL_law_770 rfl (lv_at hl 0 rfl) ?_
      refine lv_iload_n hx hb dL_law_771 rfl (lv_at hl 3 rfl) ?_
      refine lv_iconst (v := (4 : Int32)) hx hb dL_law_772 (by decide) ?_
      refine lv_iadd hx hb dL_law_773 ?_
      refine va_sld hx hb hX hbl hbA hw.2.2 h_4 dL_law_774 ?_
      refine lv_aload_n hx hb dL_law_775 rfl (lv_at hl 0 rfl) ?_
      refine lv_iload_n hx hb dL_law_776 rfl (lv_at hl 3 rfl) ?_
      refine lv_iconst (v := (5 : Int32)) hx hb dL_law_777 (by decide) ?_
      refine lv_iadd hx hb dL_law_778 ?_
      refine va_sld hx hb hX hbl hbA hw.2.2 h_5 dL_law_779 ?_
      refine cl_i (wr := pick (LW cI cZ cJ cO qx qm a d mv lf cb cm ps pl ts tb tl tr tS es eb el er eS rn rb rm rc un ub um uc sn sl sf ss si mv lf my ts rn mb mn ml mp mL mR oL oR oM mr mw mS hT hF hS hI hM) [1, 2, 3, 4, 5, 6, 7, 8, 9, 10, 11, 12, 13, 14, 15, 16, 17, 19, 20, 21, 22, 23, 24, 25, 26, 27, 28, 29, 30, 31, 32, 33, 34, 35, 36, 37, 38, 39, 40, 41, 42, 43, 44]) (ws' := (LW cI cZ cJ cO qx qm a d mv lf cb cm ps pl ts tb tl tr tS es eb el er eS rn rb rm rc un ub um uc sn sl sf ss si mv lf my ts rn mb mn ml mp mL mR oL oR oM mr mw mS hT hF hS hI hM)) hA hw [0, 18] [1, 2, 3, 4, 5, 6, 7, 8, 9, 10, 11, 12, 13, 14, 15, 16, 17, 19, 20, 21, 22, 23, 24, 25, 26, 27, 28, 29, 30, 31, 32, 33, 34, 35, 36, 37, 38, 39, 40, 41, 42, 43, 44] [43, 0, 1, 2, 3, 4, 5, 6, 7, 8, 9, 10, 11, 12, 13, 14, 15, 16, 44, 17, 18, 19, 20, 21, 22, 23, 24, 25, 26, 27, 28, 29, 30, 31, 32, 33, 34, 35, 36, 37, 38, 39, 40, 41, 42] rfl rfl rfl (by decide) rfl rfl (va_runV (As := [.int (xs (nI i + (1 : Int32)).toNatClampNeg), .int (xs (nI i + (2 : Int32)).toNatClampNeg), .int (xs (nI i + (3 : Int32)).toNatClampNeg), .int (xs (nI i + (4 : Int32)).toNatClampNeg), .int (xs (nI i + (5 : Int32)).toNatClampNeg)]) (rest := []) S (c_X6_copy_n_S l D cI cZ cJ cO _ q9 qx (a 0) (a 3) (a 5) (a 9) (a 13) (a 14) (a 17) 25000 (xs (nI i + (1 : Int32)).toNatClampNeg) (xs (nI i + (2 : Int32)).toNatClampNeg) (xs (nI i + (3 : Int32)).toNatClampNeg) (xs (nI i + (4 : Int32)).toNatClampNeg) (xs (nI i + (5 : Int32)).toNatClampNeg) mv lf (gSh a) r hs0 hs1  (congrArg some hr9)) (cwV 5 hts2 gL_law_X6_copy rfl rfl rfl (by decide +kernel) ⟨Nat.le_of_ble_eq_true rfl, Nat.le_of_ble_eq_true rfl⟩) (pre_V hK hN hw [0, 18] rfl rfl (C := RX6) (T := TX6) (N := 9) (ci := 6) (q0 := 0) rfl rfl) rfl rfl hl.1 rfl (lv_room (Nat.le_of_ble_eq_true rfl)) dL_law_780 ⟨Nat.le_of_ble_eq_true rfl, Nat.le_of_ble_eq_true rfl⟩) (fun H locs hw => ?_)
      refine lv_aload_n hx hb dL_law_783 rfl (lv_at hl 2 rfl) ?_
      refine lv_aload_n hx hb dL_law_784 rfl (lv_at hl 0 rfl) ?_
      refine lv_iload_n hx hb dL_law_785 rfl (lv_at hl 3 rfl) ?_
      refine lv_iconst (v := (1 : Int32)) hx hb dL_law_786 (by decide) ?_
      refine lv_iadd hx hb dL_law_787 ?_
      refine va_sld hx hb hX hbl hbA hw.2.2 h_1 dL_law_788 ?_
      refine lv_aload_n hx hb dL_law_789 rfl (lv_at hl 0 rfl) ?_
      refine lv_iload_n hx hb dL_law_790 rfl (lv_at hl 3 rfl) ?_
      refine lv_iconst (v := (2 : Int32)) hx hb dL_law_791 (by decide) ?_
      refine lv_iadd hx hb dL_law_792 ?_
      refine va_sld hx hb hX hbl hbA hw.2.2 h_2 dL_law_793 ?_
      refine lv_aload_n hx hb dL_law_794 rfl (lv_at hl 0 rfl) ?_
      refine lv_iload_n hx hb dL_law_795 rfl (lv_at hl 3 rfl) ?_
      refine lv_iconst (v := (3 : Int32)) hx hb dL_law_796 (by decide) ?_
      refine lv_iadd hx hb dL_law_797 ?_
      refine va_sld hx hb hX hbl hbA hw.2.2 h_3 dL_law_798 ?_
      refine lv_aload_n hx hb dL_law_799 rfl (lv_at hl 0 rfl) ?_
      refine lv_iload_n hx hb dL_law_800 rfl (lv_at hl 3 rfl) ?_
      refine lv_iconst (v := (4 : Int32)) hx hb dL_law_801 (by decide) ?_
      refine lv_iadd hx hb dL_law_802 ?_
      refine va_sld hx hb hX hbl hbA hw.2.2 h_4 dL_law_803 ?_
      refine lv_aload_n hx hb dL_law_804 rfl (lv_at hl 0 rfl) ?_
      refine lv_iload_n hx hb dL_law_805 rfl (lv_at hl 3 rfl) ?_
      refine lv_iconst (v := (5 : Int32)) hx hb dL_law_806 (by decide) ?_
      refine lv_iadd hx hb dL_law_807 ?_
      refine va_sld hx hb hX hbl hbA hw.2.2 h_5 dL_law_808 ?_
      refine cl_i (wr := pick (LW cI cZ cJ cO qx qm a d mv lf cb cm ps pl ts tb tl tr tS es eb el er eS rn rb rm rc un ub um uc sn sl sf ss si mv lf my ts rn mb mn ml mp mL mR oL oR oM mr mw mS hT hF hS hI hM) [0, 1, 2, 3, 4, 5, 6, 7, 8, 9, 10, 11, 12, 13, 14, 15, 16, 17, 18, 19, 20, 21, 22, 23, 24, 25, 26, 28, 29, 30, 31, 32, 33, 34, 35, 36, 37, 38, 39]) (ws' := (LW cI cZ cJ cO qx qm a d mv lf cb cm ps pl ts tb tl tr tS es eb el er eS rn rb rm rc un ub um uc sn sl sf ss si mv lf my ts rn mb mn ml mp mL mR oL oR oM mr mw mS hT hF hS hI hM)) hA hw [27, 40, 41, 42, 43, 44] [0, 1, 2, 3, 4, 5, 6, 7, 8, 9, 10, 11, 12, 13, 14, 15, 16, 17, 18, 19, 20, 21, 22, 23, 24, 25, 26, 28, 29, 30, 31, 32, 33, 34, 35, 36, 37, 38, 39] [0, 1, 2, 3, 4, 5, 6, 7, 8, 9, 10, 11, 12, 13, 14, 15, 16, 17, 18, 19, 20, 21, 22, 23, 24, 25, 26, 39, 27, 28, 29, 30, 31, 32, 33, 34, 35, 36, 37, 38, 40, 41, 42, 43, 44] rfl rfl rfl (by decide) rfl rfl (va_runV (As := [.int (xs (nI i + (1 : Int32)).toNatClampNeg), .int (xs (nI i + (2 : Int32)).toNatClampNeg), .int (xs (nI i + (3 : Int32)).toNatClampNeg), .int (xs (nI i + (4 : Int32)).toNatClampNeg), .int (xs (nI i + (5 : Int32)).toNatClampNeg)]) (rest := [.int r]) S (c_X7_copy l D cI cZ cJ cO _ qm (d 0) (d 1) (d 2) (d 3) (d 4) (d 5) (d 6) (d 7) (d 8) (d 9) (d 10) (d 11) (d 12) (d 13) (d 14) (d 15) (d 16) 25000 (xs (nI i + (1 : Int32)).toNatClampNeg) (xs (nI i + (2 : Int32)).toNatClampNeg) (xs (nI i + (3 : Int32)).toNatClampNeg) (xs (nI i + (4 : Int32)).toNatClampNeg) (xs (nI i + (5 : Int32)).toNatClampNeg) mv my ts rn lf hT hF hS hI hM r lf hI hM  e2) (cwV 5 hts2 gL_law_X7_copy rfl rfl rfl (by decide +kernel) ⟨Nat.le_of_ble_eq_true rfl, Nat.le_of_ble_eq_true rfl⟩) (pre_V hK hN hw [27, 40, 41, 42, 43, 44] rfl rfl (C := RX7) (T := TX7) (N := 22) (ci := 7) (q0 := 0) rfl rfl) rfl rfl hl.1 rfl (lv_room (Nat.le_of_ble_eq_true rfl)) dL_law_809 ⟨Nat.le_of_ble_eq_true rfl, Nat.le_of_ble_eq_true rfl⟩) (fun H locs hw => ?_)
      refine lv_icmp_eq (tgt := 920) hx hb dL_law_812 (by decide) (fun _ => ?_) (fun c9 => absurd rfl c9)
      exact hG mv lf cb cm ps pl ts tb tl tr tS es eb el er eS rn rb rm rc un ub um uc sn sl sf ss si my mb mn ml mp mL mR oL oR oM mr mw mS hT hF hS hI hM _ _ _ ⟨hB, hS_, hR, hH⟩ hw hl
    · have hs0 : shOf (xs (nI i + (1 : Int32)).toNatClampNeg) (gSh a) = none := eN (gSh a)
      have hs1 : shOf (xs (nI i + (3 : Int32)).toNatClampNeg) (gSh a) = none := eN3 (gSh a)
      obtain ⟨r, hr9⟩ : ∃ r : Int32, (-2 : Int32) = r := ⟨_, rfl⟩
      have e2 : f_X7_copy 25000 (xs (nI i + (1 : Int32)).toNatClampNeg) (xs (nI i + (2 : Int32)).toNatClampNeg) (xs (nI i + (3 : Int32)).toNatClampNeg) (xs (nI i + (4 : Int32)).toNatClampNeg) (xs (nI i + (5 : Int32)).toNatClampNeg) lf hT hF hS hI hM = some (r, lf, hI, hM) := by unfold f_X7_copy; rw [e, bd1_t, if_pos rfl, hr9]
      refine lv_aload_n hx hb dL_law_754 rfl (lv_at hl 1 rfl) ?_
      refine lv_aload_n hx hb dL_law_755 rfl (lv_at hl 0 rfl) ?_
      refine lv_iload_n hx hb dL_law_756 rfl (lv_at hl 3 rfl) ?_
      refine lv_iconst (v := (1 : Int32)) hx hb dL_law_757 (by decide) ?_
      refine lv_iadd hx hb dL_law_758 ?_
      refine va_sld hx hb hX hbl hbA hw.2.2 h_1 dL_law_759 ?_
      refine lv_aload_n hx hb dL_law_760 rfl (lv_at hl 0 rfl) ?_
      refine lv_iload_n hx hb dL_law_761 rfl (lv_at hl 3 rfl) ?_
      refine lv_iconst (v := (2 : Int32)) hx hb dL_law_762 (by decide) ?_
      refine lv_iadd hx hb dL_law_763 ?_
      refine va_sld hx hb hX hbl hbA hw.2.2 h_2 dL_law_764 ?_
      refine lv_aload_n hx hb dL_law_765 rfl (lv_at hl 0 rfl) ?_
      refine lv_iload_n hx hb dL_law_766 rfl (lv_at hl 3 rfl) ?_
      refine lv_iconst (v := (3 : Int32)) hx hb dL_law_767 (by decide) ?_
      refine lv_iadd hx hb dL_law_768 ?_
      refine va_sld hx hb hX hbl hbA hw.2.2 h_3 dL_law_769 ?_
      refine lv_aload_n hx hb dL_law_770 rfl (lv_at hl 0 rfl) ?_
      refine lv_iload_n hx hb dL_law_771 rfl (lv_at hl 3 rfl) ?_
      refine lv_iconst (v := (4 : Int32)) hx hb dL_law_772 (by decide) ?_
      refine lv_iadd hx hb dL_law_773 ?_
      refine va_sld hx hb hX hbl hbA hw.2.2 h_4 dL_law_774 ?_
      refine lv_aload_n hx hb dL_law_775 rfl (lv_at hl 0 rfl) ?_
      refine lv_iload_n hx hb dL_law_776 rfl (lv_at hl 3 rfl) ?_
      refine lv_iconst (v := (5 : Int32)) hx hb dL_law_777 (by decide) ?_
      refine lv_iadd hx hb dL_law_778 ?_
      refine va_sld hx hb hX hbl hbA hw.2.2 h_5 dL_law_779 ?_
      refine cl_i (wr := pick (LW cI cZ cJ cO qx qm a d mv lf cb cm ps pl ts tb tl tr tS es eb el er eS rn rb rm rc un ub um uc sn sl sf ss si mv lf my ts rn mb mn ml mp mL mR oL oR oM mr mw mS hT hF hS hI hM) [1, 2, 3, 4, 5, 6, 7, 8, 9, 10, 11, 12, 13, 14, 15, 16, 17, 19, 20, 21, 22, 23, 24, 25, 26, 27, 28, 29, 30, 31, 32, 33, 34, 35, 36, 37, 38, 39, 40, 41, 42, 43, 44]) (ws' := (LW cI cZ cJ cO qx qm a d mv lf cb cm ps pl ts tb tl tr tS es eb el er eS rn rb rm rc un ub um uc sn sl sf ss si mv lf my ts rn mb mn ml mp mL mR oL oR oM mr mw mS hT hF hS hI hM)) hA hw [0, 18] [1, 2, 3, 4, 5, 6, 7, 8, 9, 10, 11, 12, 13, 14, 15, 16, 17, 19, 20, 21, 22, 23, 24, 25, 26, 27, 28, 29, 30, 31, 32, 33, 34, 35, 36, 37, 38, 39, 40, 41, 42, 43, 44] [43, 0, 1, 2, 3, 4, 5, 6, 7, 8, 9, 10, 11, 12, 13, 14, 15, 16, 44, 17, 18, 19, 20, 21, 22, 23, 24, 25, 26, 27, 28, 29, 30, 31, 32, 33, 34, 35, 36, 37, 38, 39, 40, 41, 42] rfl rfl rfl (by decide) rfl rfl (va_runV (As := [.int (xs (nI i + (1 : Int32)).toNatClampNeg), .int (xs (nI i + (2 : Int32)).toNatClampNeg), .int (xs (nI i + (3 : Int32)).toNatClampNeg), .int (xs (nI i + (4 : Int32)).toNatClampNeg), .int (xs (nI i + (5 : Int32)).toNatClampNeg)]) (rest := []) S (c_X6_copy_n_n l D cI cZ cJ cO _ qx (a 0) (a 3) (a 5) (a 9) (a 13) (a 14) (a 17) 25000 (xs (nI i + (1 : Int32)).toNatClampNeg) (xs (nI i + (2 : Int32)).toNatClampNeg) (xs (nI i + (3 : Int32)).toNatClampNeg) (xs (nI i + (4 : Int32)).toNatClampNeg) (xs (nI i + (5 : Int32)).toNatClampNeg) mv lf (gSh a) r hs0 hs1  (congrArg some hr9)) (cwV 5 hts2 gL_law_X6_copy rfl rfl rfl (by decide +kernel) ⟨Nat.le_of_ble_eq_true rfl, Nat.le_of_ble_eq_true rfl⟩) (pre_V hK hN hw [0, 18] rfl rfl (C := RX6) (T := TX6) (N := 9) (ci := 6) (q0 := 0) rfl rfl) rfl rfl hl.1 rfl (lv_room (Nat.le_of_ble_eq_true rfl)) dL_law_780 ⟨Nat.le_of_ble_eq_true rfl, Nat.le_of_ble_eq_true rfl⟩) (fun H locs hw => ?_)
      refine lv_aload_n hx hb dL_law_783 rfl (lv_at hl 2 rfl) ?_
      refine lv_aload_n hx hb dL_law_784 rfl (lv_at hl 0 rfl) ?_
      refine lv_iload_n hx hb dL_law_785 rfl (lv_at hl 3 rfl) ?_
      refine lv_iconst (v := (1 : Int32)) hx hb dL_law_786 (by decide) ?_
      refine lv_iadd hx hb dL_law_787 ?_
      refine va_sld hx hb hX hbl hbA hw.2.2 h_1 dL_law_788 ?_
      refine lv_aload_n hx hb dL_law_789 rfl (lv_at hl 0 rfl) ?_
      refine lv_iload_n hx hb dL_law_790 rfl (lv_at hl 3 rfl) ?_
      refine lv_iconst (v := (2 : Int32)) hx hb dL_law_791 (by decide) ?_
      refine lv_iadd hx hb dL_law_792 ?_
      refine va_sld hx hb hX hbl hbA hw.2.2 h_2 dL_law_793 ?_
      refine lv_aload_n hx hb dL_law_794 rfl (lv_at hl 0 rfl) ?_
      refine lv_iload_n hx hb dL_law_795 rfl (lv_at hl 3 rfl) ?_
      refine lv_iconst (v := (3 : Int32)) hx hb dL_law_796 (by decide) ?_
      refine lv_iadd hx hb dL_law_797 ?_
      refine va_sld hx hb hX hbl hbA hw.2.2 h_3 dL_law_798 ?_
      refine lv_aload_n hx hb dL_law_799 rfl (lv_at hl 0 rfl) ?_
      refine lv_iload_n hx hb dL_law_800 rfl (lv_at hl 3 rfl) ?_
      refine lv_iconst (v := (4 : Int32)) hx hb dL_law_801 (by decide) ?_
      refine lv_iadd hx hb dL_law_802 ?_
      refine va_sld hx hb hX hbl hbA hw.2.2 h_4 dL_law_803 ?_
      refine lv_aload_n hx hb dL_law_804 rfl (lv_at hl 0 rfl) ?_
      refine lv_iload_n hx hb dL_law_805 rfl (lv_at hl 3 rfl) ?_
      refine lv_iconst (v := (5 : Int32)) hx hb dL_law_806 (by decide) ?_
      refine lv_iadd hx hb dL_law_807 ?_
      refine va_sld hx hb hX hbl hbA hw.2.2 h_5 dL_law_808 ?_
      refine cl_i (wr := pick (LW cI cZ cJ cO qx qm a d mv lf cb cm ps pl ts tb tl tr tS es eb el er eS rn rb rm rc un ub um uc sn sl sf ss si mv lf my ts rn mb mn ml mp mL mR oL oR oM mr mw mS hT hF hS hI hM) [0, 1, 2, 3, 4, 5, 6, 7, 8, 9, 10, 11, 12, 13, 14, 15, 16, 17, 18, 19, 20, 21, 22, 23, 24, 25, 26, 28, 29, 30, 31, 32, 33, 34, 35, 36, 37, 38, 39]) (ws' := (LW cI cZ cJ cO qx qm a d mv lf cb cm ps pl ts tb tl tr tS es eb el er eS rn rb rm rc un ub um uc sn sl sf ss si mv lf my ts rn mb mn ml mp mL mR oL oR oM mr mw mS hT hF hS hI hM)) hA hw [27, 40, 41, 42, 43, 44] [0, 1, 2, 3, 4, 5, 6, 7, 8, 9, 10, 11, 12, 13, 14, 15, 16, 17, 18, 19, 20, 21, 22, 23, 24, 25, 26, 28, 29, 30, 31, 32, 33, 34, 35, 36, 37, 38, 39] [0, 1, 2, 3, 4, 5, 6, 7, 8, 9, 10, 11, 12, 13, 14, 15, 16, 17, 18, 19, 20, 21, 22, 23, 24, 25, 26, 39, 27, 28, 29, 30, 31, 32, 33, 34, 35, 36, 37, 38, 40, 41, 42, 43, 44] rfl rfl rfl (by decide) rfl rfl (va_runV (As := [.int (xs (nI i + (1 : Int32)).toNatClampNeg), .int (xs (nI i + (2 : Int32)).toNatClampNeg), .int (xs (nI i + (3 : Int32)).toNatClampNeg), .int (xs (nI i + (4 : Int32)).toNatClampNeg), .int (xs (nI i + (5 : Int32)).toNatClampNeg)]) (rest := [.int r]) S (c_X7_copy l D cI cZ cJ cO _ qm (d 0) (d 1) (d 2) (d 3) (d 4) (d 5) (d 6) (d 7) (d 8) (d 9) (d 10) (d 11) (d 12) (d 13) (d 14) (d 15) (d 16) 25000 (xs (nI i + (1 : Int32)).toNatClampNeg) (xs (nI i + (2 : Int32)).toNatClampNeg) (xs (nI i + (3 : Int32)).toNatClampNeg) (xs (nI i + (4 : Int32)).toNatClampNeg) (xs (nI i + (5 : Int32)).toNatClampNeg) mv my ts rn lf hT hF hS hI hM r lf hI hM  e2) (cwV 5 hts2 gL_law_X7_copy rfl rfl rfl (by decide +kernel) ⟨Nat.le_of_ble_eq_true rfl, Nat.le_of_ble_eq_true rfl⟩) (pre_V hK hN hw [27, 40, 41, 42, 43, 44] rfl rfl (C := RX7) (T := TX7) (N := 22) (ci := 7) (q0 := 0) rfl rfl) rfl rfl hl.1 rfl (lv_room (Nat.le_of_ble_eq_true rfl)) dL_law_809 ⟨Nat.le_of_ble_eq_true rfl, Nat.le_of_ble_eq_true rfl⟩) (fun H locs hw => ?_)
      refine lv_icmp_eq (tgt := 920) hx hb dL_law_812 (by decide) (fun _ => ?_) (fun c9 => absurd rfl c9)
      exact hG mv lf cb cm ps pl ts tb tl tr tS es eb el er eS rn rb rm rc un ub um uc sn sl sf ss si my mb mn ml mp mL mR oL oR oM mr mw mS hT hF hS hI hM _ _ _ ⟨hB, hS_, hR, hH⟩ hw hl
