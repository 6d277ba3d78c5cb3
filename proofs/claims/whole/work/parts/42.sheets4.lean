set_option maxHeartbeats 4000000 in
set_option maxRecDepth 100000 in
theorem law_copy_2 {p : Program} {l : Launch} {e : Env} {s : State} {m : MethodId} {below : List Frame} {meth : Method} {c : Code} {D : va_G} {cI cZ cJ cO : ClassId} {b L qx qm : Nat} {a d : Nat → Nat} {xs : Nat → Int32} (hL : L ≤ 3072) (C0 : lw_At p s m meth c b L xs) (hts2 : ∀ w ∈ wsL_law, w.before #[Value.ref b] s = true) (hK : va_K D vwCl (TY cI cZ cJ cO) s) (hN : NW s) (i : Nat) (hi : i + 6 ≤ L) (hG : LGoal p l e s m below meth c D cI cZ cJ cO b qx qm a d i) (mv : Int32) (lf : Int32) (cb : (Nat → Int32)) (cm : (Nat → Int32)) (ps : Int32) (pl : (Nat → Int32)) (ts : Int32) (tb : Int32) (tl : (Nat → Int32)) (tr : (Nat → Int32)) (tS : (Nat → Int32)) (es : Int32) (eb : Int32) (el : (Nat → Int32)) (er : (Nat → Int32)) (eS : (Nat → Int32)) (rn : Int32) (rb : Int64) (rm : Int64) (rc : Int32) (un : Int32) (ub : Int64) (um : Int64) (uc : Int32) (sn : (Nat → Int64)) (sl : (Nat → Int32)) (sf : (Nat → Int32)) (ss : (Nat → Int32)) (si : (Nat → Nat → Int32)) (my : Int32) (mb : (Nat → Int32)) (mn : (Nat → Int32)) (ml : (Nat → Int32)) (mp : (Nat → Int32)) (mL : (Nat → Int32)) (mR : (Nat → Int32)) (oL : (Nat → Int32)) (oR : (Nat → Int32)) (oM : (Nat → Int32)) (mr : (Nat → Int32)) (mw : (Nat → Int32)) (mS : (Nat → Int32)) (hT : (Nat → Int32)) (hF : (Nat → Int32)) (hS : (Nat → Int32)) (hI : (Nat → Int32)) (hM : (Nat → Int32)) (H : Heap) (locs : List Loc) (ls : Array Slot) (eA : (xs (nI i + (1 : Int32)).toNatClampNeg) = nI 2) (k2 : Nat) (hk2 : k2 < 4) (e3 : (xs (nI i + (3 : Int32)).toNatClampNeg) = nI k2) (hInv : (Inv cb mb tl tr tS ts tb oL oR oM rn rb mr sl sf ss si hT hF hS hI)) (hw : Wd D (fun q : Nat => s.heap.size ≤ q) s.heap (LW cI cZ cJ cO qx qm a d mv lf cb cm ps pl ts tb tl tr tS es eb el er eS rn rb rm rc un ub um uc sn sl sf ss si mv lf my ts rn mb mn ml mp mL mR oL oR oM mr mw mS hT hF hS hI hM) H locs) (hl : lv_has ls 4 [(0, .ref b), (1, .ref qx), (2, .ref qm), (3, .int (nI i))]) : W p l e room_1 s m #[Value.ref b] below meth c H locs 45 5498 (lw_Z below #[Value.ref b] s) (F0 m 754 ls []) := by
  obtain ⟨hx, hb, hr, hml, hown, hts, hX, hbl, hlocks, hgv⟩ := C0
  have hA : ∀ q : Nat, s.heap.size ≤ q → (fun q : Nat => s.heap.size ≤ q) q := fun _ h => h
  have hbA : ¬ (fun q : Nat => s.heap.size ≤ q) b := Nat.not_le.mpr hbl
  have S : CallFix p m c cL_law 4 s #[Value.ref b] wsL_law RL := ⟨hx, hb, hml, hown, hts2⟩
  have hb : c.code = cL_law := hb
  obtain ⟨hB, hS_, hR, hH⟩ := hInv
  have h_1 : vp_in (nI i + (1 : Int32)) L := by rw [show nI i + (1 : Int32) = nI (i + 1) from nI_add i 1]; exact vp_in_nI (by omega) (by omega)
  have h_2 : vp_in (nI i + (2 : Int32)) L := by rw [show nI i + (2 : Int32) = nI (i + 2) from nI_add i 2]; exact vp_in_nI (by omega) (by omega)
  have h_3 : vp_in (nI i + (3 : Int32)) L := by rw [show nI i + (3 : Int32) = nI (i + 3) from nI_add i 3]; exact vp_in_nI (by omega) (by omega)
  have h_4 : vp_in (nI i + (4 : Int32)) L := by rw [show nI i + (4 : Int32) = nI (i + 4) from nI_add i 4]; exact vp_in_nI (by omega) (by omega)
  have h_5 : vp_in (nI i + (5 : Int32)) L := by rw [show nI i + (5 : Int32) = nI (i + 5) from nI_add i 5]; exact vp_in_nI (by omega) (by omega)
  rcases (show k2 = 0 ∨ k2 = 1 ∨ k2 = 2 ∨ k2 = 3 by omega) with rfl | rfl | rfl | rfl
  · have hs0 : shOf (xs (nI i + (1 : Int32)).toNatClampNeg) (gSh a) = some (a 22) := by rw [eA]; exact sh_2 a
    have hs1 : shOf (xs (nI i + (3 : Int32)).toNatClampNeg) (gSh a) = some (a 18) := by rw [e3]; exact sh_0 a
    obtain ⟨r, lf', it', hI', hM', e1, e2, nH⟩ := pu_copyE 25000 (Nat.le_refl _) (i := 2) (j := 0) (by decide) (by decide) eA e3 (xs (nI i + (2 : Int32)).toNatClampNeg) (xs (nI i + (4 : Int32)).toNatClampNeg) (xs (nI i + (5 : Int32)).toNatClampNeg) lf (gSh a) sl sf ss si hT hF hS hI hM hH
    refine lv_aload_n hx hb dL_law_754 rfl (lv_at hl 1 rfl) ?_
    refine lv_aload_n hx hb dL_law_755 rfl (lv_at hl 0 rfl) ?_
    refine lv_iload_n hx hb dL_law_756 rfl (lv_at hl 3 rfl) ?_
    refine lv_iconst (v := (1 : Int32)) hx hb dL_law_757 (by decide) ?_
    refine lv_iadd hx hb dL_law_758 ?_
    refine va_sld hx hb hX hbl hbA hw.2.2 h_1 dL_law_759 ?_
    refine lv_aload_n hx hb dL_law_760 rfl (lv_at hl 0 rfl) ?_
    refine lv_iload_n hx hb dL_law_761 rfl (lv_at hl 3 rfl) ?_
    refine lv_iconst (v := (2 : Int32)) hx hb dL_law_762 (by decide) ?_
    refine lv_iadd hx hb dL_law_763 ?_
    refine va_sld hx hb hX hbl hbA hw.2.2 h_2 dL_law_764 ?_
    refine lv_aload_n hx hb dL_law_765 rfl (lv_at hl 0 rfl) ?_
    refine lv_iload_n hx hb dL_law_766 rfl (lv_at hl 3 rfl) ?_
    refine lv_iconst (v := (3 : Int32)) hx hb dL_law_767 (by decide) ?_
    refine lv_iadd hx hb dL_law_768 ?_
    refine va_sld hx hb hX hbl hbA hw.2.2 h_3 dL_law_769 ?_
    refine lv_aload_n hx hb dL_law_770 rfl (lv_at hl 0 rfl) ?_
    refine lv_iload_n hx hb dL_law_771 rfl (lv_at hl 3 rfl) ?_
    refine lv_iconst (v := (4 : Int32)) hx hb dL_law_772 (by decide) ?_
    refine lv_iadd hx hb dL_law_773 ?_
    refine va_sld hx hb hX hbl hbA hw.2.2 h_4 dL_law_774 ?_
    refine lv_aload_n hx hb dL_law_775 rfl (lv_at hl 0 rfl) ?_
    refine lv_iload_n hx hb dL_law_776 rfl (lv_at hl 3 rfl) ?_
    refine lv_iconst (v := (5 : Int32)) hx hb dL_law_777 (by decide) ?_
    refine lv_iadd hx hb dL_law_778 ?_
    refine va_sld hx hb hX hbl hbA hw.2.2 h_5 dL_law_779 ?_
    refine cl_i (wr := pick (LW cI cZ cJ cO qx qm a d mv lf cb cm ps pl ts tb tl tr tS es eb el er eS rn rb rm rc un ub um uc sn sl sf ss si mv lf my ts rn mb mn ml mp mL mR oL oR oM mr mw mS hT hF hS hI hM) [1, 2, 3, 4, 5, 6, 7, 8, 9, 10, 11, 12, 13, 14, 15, 16, 17, 21, 22, 25, 26, 27, 28, 29, 30, 31, 32, 33, 34, 35, 36, 37, 38, 39, 40, 41, 42, 43, 44]) (ws' := (LW cI cZ cJ cO qx qm a d mv lf' cb cm ps pl ts tb tl tr tS es eb el er eS rn rb rm rc un ub um uc sn sl sf ss (va_up si 0 it') mv lf my ts rn mb mn ml mp mL mR oL oR oM mr mw mS hT hF hS hI hM)) hA hw [0, 18, 23, 24, 19, 20] [1, 2, 3, 4, 5, 6, 7, 8, 9, 10, 11, 12, 13, 14, 15, 16, 17, 21, 22, 25, 26, 27, 28, 29, 30, 31, 32, 33, 34, 35, 36, 37, 38, 39, 40, 41, 42, 43, 44] [39, 0, 1, 2, 3, 4, 5, 6, 7, 8, 9, 10, 11, 12, 13, 14, 15, 16, 40, 43, 44, 17, 18, 41, 42, 19, 20, 21, 22, 23, 24, 25, 26, 27, 28, 29, 30, 31, 32, 33, 34, 35, 36, 37, 38] rfl rfl rfl (by decide) rfl rfl (va_runV (As := [.int (xs (nI i + (1 : Int32)).toNatClampNeg), .int (xs (nI i + (2 : Int32)).toNatClampNeg), .int (xs (nI i + (3 : Int32)).toNatClampNeg), .int (xs (nI i + (4 : Int32)).toNatClampNeg), .int (xs (nI i + (5 : Int32)).toNatClampNeg)]) (rest := []) S (c_X6_copy_S_T l D cI cZ cJ cO _ qx (a 0) (a 3) (a 5) (a 9) (a 13) (a 14) (a 17) (a 22) (a 23) (a 18) (a 19) 25000 (xs (nI i + (1 : Int32)).toNatClampNeg) (xs (nI i + (2 : Int32)).toNatClampNeg) (xs (nI i + (3 : Int32)).toNatClampNeg) (xs (nI i + (4 : Int32)).toNatClampNeg) (xs (nI i + (5 : Int32)).toNatClampNeg) mv lf (gSh a) (sl 2) (sf 2) (ss 2) (si 2) (sl 0) (sf 0) (ss 0) (si 0) r lf' it' hs0 hs1  e1) (cwV 5 hts2 gL_law_X6_copy rfl rfl rfl (by decide +kernel) ⟨Nat.le_of_ble_eq_true rfl, Nat.le_of_ble_eq_true rfl⟩) (pre_V hK hN hw [0, 18, 23, 24, 19, 20] rfl rfl (C := RX6) (T := TX6) (N := 9) (ci := 6) (q0 := 0) rfl rfl) rfl rfl hl.1 rfl (lv_room (Nat.le_of_ble_eq_true rfl)) dL_law_780 ⟨Nat.le_of_ble_eq_true rfl, Nat.le_of_ble_eq_true rfl⟩) (fun H locs hw => ?_)
    refine lv_aload_n hx hb dL_law_783 rfl (lv_at hl 2 rfl) ?_
    refine lv_aload_n hx hb dL_law_784 rfl (lv_at hl 0 rfl) ?_
    refine lv_iload_n hx hb dL_law_785 rfl (lv_at hl 3 rfl) ?_
    refine lv_iconst (v := (1 : Int32)) hx hb dL_law_786 (by decide) ?_
    refine lv_iadd hx hb dL_law_787 ?_
    refine va_sld hx hb hX hbl hbA hw.2.2 h_1 dL_law_788 ?_
    refine lv_aload_n hx hb dL_law_789 rfl (lv_at hl 0 rfl) ?_
    refine lv_iload_n hx hb dL_law_790 rfl (lv_at hl 3 rfl) ?_
    refine lv_iconst (v := (2 : Int32)) hx hb dL_law_791 (by decide) ?_
    refine lv_iadd hx hb dL_law_792 ?_
    refine va_sld hx hb hX hbl hbA hw.2.2 h_2 dL_law_793 ?_
    refine lv_aload_n hx hb dL_law_794 rfl (lv_at hl 0 rfl) ?_
    refine lv_iload_n hx hb dL_law_795 rfl (lv_at hl 3 rfl) ?_
    refine lv_iconst (v := (3 : Int32)) hx hb dL_law_796 (by decide) ?_
    refine lv_iadd hx hb dL_law_797 ?_
    refine va_sld hx hb hX hbl hbA hw.2.2 h_3 dL_law_798 ?_
    refine lv_aload_n hx hb dL_law_799 rfl (lv_at hl 0 rfl) ?_
    refine lv_iload_n hx hb dL_law_800 rfl (lv_at hl 3 rfl) ?_
    refine lv_iconst (v := (4 : Int32)) hx hb dL_law_801 (by decide) ?_
    refine lv_iadd hx hb dL_law_802 ?_
    refine va_sld hx hb hX hbl hbA hw.2.2 h_4 dL_law_803 ?_
    refine lv_aload_n hx hb dL_law_804 rfl (lv_at hl 0 rfl) ?_
    refine lv_iload_n hx hb dL_law_805 rfl (lv_at hl 3 rfl) ?_
    refine lv_iconst (v := (5 : Int32)) hx hb dL_law_806 (by decide) ?_
    refine lv_iadd hx hb dL_law_807 ?_
    refine va_sld hx hb hX hbl hbA hw.2.2 h_5 dL_law_808 ?_
    refine cl_i (wr := pick (LW cI cZ cJ cO qx qm a d mv lf' cb cm ps pl ts tb tl tr tS es eb el er eS rn rb rm rc un ub um uc sn sl sf ss (va_up si 0 it') mv lf my ts rn mb mn ml mp mL mR oL oR oM mr mw mS hT hF hS hI hM) [0, 1, 2, 3, 4, 5, 6, 7, 8, 9, 10, 11, 12, 13, 14, 15, 16, 17, 18, 19, 20, 21, 22, 23, 24, 25, 26, 28, 29, 30, 31, 32, 33, 34, 35, 36, 37, 38, 39]) (ws' := (LW cI cZ cJ cO qx qm a d mv lf' cb cm ps pl ts tb tl tr tS es eb el er eS rn rb rm rc un ub um uc sn sl sf ss (va_up si 0 it') mv lf' my ts rn mb mn ml mp mL mR oL oR oM mr mw mS hT hF hS hI' hM')) hA hw [27, 40, 41, 42, 43, 44] [0, 1, 2, 3, 4, 5, 6, 7, 8, 9, 10, 11, 12, 13, 14, 15, 16, 17, 18, 19, 20, 21, 22, 23, 24, 25, 26, 28, 29, 30, 31, 32, 33, 34, 35, 36, 37, 38, 39] [0, 1, 2, 3, 4, 5, 6, 7, 8, 9, 10, 11, 12, 13, 14, 15, 16, 17, 18, 19, 20, 21, 22, 23, 24, 25, 26, 39, 27, 28, 29, 30, 31, 32, 33, 34, 35, 36, 37, 38, 40, 41, 42, 43, 44] rfl rfl rfl (by decide) rfl rfl (va_runV (As := [.int (xs (nI i + (1 : Int32)).toNatClampNeg), .int (xs (nI i + (2 : Int32)).toNatClampNeg), .int (xs (nI i + (3 : Int32)).toNatClampNeg), .int (xs (nI i + (4 : Int32)).toNatClampNeg), .int (xs (nI i + (5 : Int32)).toNatClampNeg)]) (rest := [.int r]) S (c_X7_copy l D cI cZ cJ cO _ qm (d 0) (d 1) (d 2) (d 3) (d 4) (d 5) (d 6) (d 7) (d 8) (d 9) (d 10) (d 11) (d 12) (d 13) (d 14) (d 15) (d 16) 25000 (xs (nI i + (1 : Int32)).toNatClampNeg) (xs (nI i + (2 : Int32)).toNatClampNeg) (xs (nI i + (3 : Int32)).toNatClampNeg) (xs (nI i + (4 : Int32)).toNatClampNeg) (xs (nI i + (5 : Int32)).toNatClampNeg) mv my ts rn lf hT hF hS hI hM r lf' hI' hM'  e2) (cwV 5 hts2 gL_law_X7_copy rfl rfl rfl (by decide +kernel) ⟨Nat.le_of_ble_eq_true rfl, Nat.le_of_ble_eq_true rfl⟩) (pre_V hK hN hw [27, 40, 41, 42, 43, 44] rfl rfl (C := RX7) (T := TX7) (N := 22) (ci := 7) (q0 := 0) rfl rfl) rfl rfl hl.1 rfl (lv_room (Nat.le_of_ble_eq_true rfl)) dL_law_809 ⟨Nat.le_of_ble_eq_true rfl, Nat.le_of_ble_eq_true rfl⟩) (fun H locs hw => ?_)
    refine lv_icmp_eq (tgt := 920) hx hb dL_law_812 (by decide) (fun _ => ?_) (fun c9 => absurd rfl c9)
    exact hG mv lf' cb cm ps pl ts tb tl tr tS es eb el er eS rn rb rm rc un ub um uc sn sl sf ss (va_up si 0 it') my mb mn ml mp mL mR oL oR oM mr mw mS hT hF hS hI' hM' _ _ _ ⟨hB, hS_, hR, nH⟩ hw hl
  · have hs0 : shOf (xs (nI i + (1 : Int32)).toNatClampNeg) (gSh a) = some (a 22) := by rw [eA]; exact sh_2 a
    have hs1 : shOf (xs (nI i + (3 : Int32)).toNatClampNeg) (gSh a) = some (a 20) := by rw [e3]; exact sh_1 a
    obtain ⟨r, lf', it', hI', hM', e1, e2, nH⟩ := pu_copyE 25000 (Nat.le_refl _) (i := 2) (j := 1) (by decide) (by decide) eA e3 (xs (nI i + (2 : Int32)).toNatClampNeg) (xs (nI i + (4 : Int32)).toNatClampNeg) (xs (nI i + (5 : Int32)).toNatClampNeg) lf (gSh a) sl sf ss si hT hF hS hI hM hH
    refine lv_aload_n hx hb dL_law_754 rfl (lv_at hl 1 rfl) ?_
    refine lv_aload_n hx hb dL_law_755 rfl (lv_at hl 0 rfl) ?_
    refine lv_iload_n hx hb dL_law_756 rfl (lv_at hl 3 rfl) ?_
    refine lv_iconst (v := (1 : Int32)) hx hb dL_law_757 (by decide) ?_
    refine lv_iadd hx hb dL_law_758 ?_
    refine va_sld hx hb hX hbl hbA hw.2.2 h_1 dL_law_759 ?_
    refine lv_aload_n hx hb dL_law_760 rfl (lv_at hl 0 rfl) ?_
    refine lv_iload_n hx hb dL_law_761 rfl (lv_at hl 3 rfl) ?_
    refine lv_iconst (v := (2 : Int32)) hx hb dL_law_762 (by decide) ?_
    refine lv_iadd hx hb dL_law_763 ?_
    refine va_sld hx hb hX hbl hbA hw.2.2 h_2 dL_law_764 ?_
    refine lv_aload_n hx hb dL_law_765 rfl (lv_at hl 0 rfl) ?_
    refine lv_iload_n hx hb dL_law_766 rfl (lv_at hl 3 rfl) ?_
    refine lv_iconst (v := (3 : Int32)) hx hb dL_law_767 (by decide) ?_
    refine lv_iadd hx hb dL_law_768 ?_
    refine va_sld hx hb hX hbl hbA hw.2.2 h_3 dL_law_769 ?_
    refine lv_aload_n hx hb dL_law_770 rfl (lv_at hl 0 rfl) ?_
    refine lv_iload_n hx hb dL_law_771 rfl (lv_at hl 3 rfl) ?_
    refine lv_iconst (v := (4 : Int32)) hx hb dL_law_772 (by decide) ?_
    refine lv_iadd hx hb dL_law_773 ?_
    refine va_sld hx hb hX hbl hbA hw.2.2 h_4 dL_law_774 ?_
    refine lv_aload_n hx hb dL_law_775 rfl (lv_at hl 0 rfl) ?_
    refine lv_iload_n hx hb dL_law_776 rfl (lv_at hl 3 rfl) ?_
    refine lv_iconst (v := (5 : Int32)) hx hb dL_law_777 (by decide) ?_
    refine lv_iadd hx hb dL_law_778 ?_
    refine va_sld hx hb hX hbl hbA hw.2.2 h_5 dL_law_779 ?_
    refine cl_i (wr := pick (LW cI cZ cJ cO qx qm a d mv lf cb cm ps pl ts tb tl tr tS es eb el er eS rn rb rm rc un ub um uc sn sl sf ss si mv lf my ts rn mb mn ml mp mL mR oL oR oM mr mw mS hT hF hS hI hM) [1, 2, 3, 4, 5, 6, 7, 8, 9, 10, 11, 12, 13, 14, 15, 16, 17, 19, 20, 25, 26, 27, 28, 29, 30, 31, 32, 33, 34, 35, 36, 37, 38, 39, 40, 41, 42, 43, 44]) (ws' := (LW cI cZ cJ cO qx qm a d mv lf' cb cm ps pl ts tb tl tr tS es eb el er eS rn rb rm rc un ub um uc sn sl sf ss (va_up si 1 it') mv lf my ts rn mb mn ml mp mL mR oL oR oM mr mw mS hT hF hS hI hM)) hA hw [0, 18, 23, 24, 21, 22] [1, 2, 3, 4, 5, 6, 7, 8, 9, 10, 11, 12, 13, 14, 15, 16, 17, 19, 20, 25, 26, 27, 28, 29, 30, 31, 32, 33, 34, 35, 36, 37, 38, 39, 40, 41, 42, 43, 44] [39, 0, 1, 2, 3, 4, 5, 6, 7, 8, 9, 10, 11, 12, 13, 14, 15, 16, 40, 17, 18, 43, 44, 41, 42, 19, 20, 21, 22, 23, 24, 25, 26, 27, 28, 29, 30, 31, 32, 33, 34, 35, 36, 37, 38] rfl rfl rfl (by decide) rfl rfl (va_runV (As := [.int (xs (nI i + (1 : Int32)).toNatClampNeg), .int (xs (nI i + (2 : Int32)).toNatClampNeg), .int (xs (nI i + (3 : Int32)).toNatClampNeg), .int (xs (nI i + (4 : Int32)).toNatClampNeg), .int (xs (nI i + (5 : Int32)).toNatClampNeg)]) (rest := []) S (c_X6_copy_S_T l D cI cZ cJ cO _ qx (a 0) (a 3) (a 5) (a 9) (a 13) (a 14) (a 17) (a 22) (a 23) (a 20) (a 21) 25000 (xs (nI i + (1 : Int32)).toNatClampNeg) (xs (nI i + (2 : Int32)).toNatClampNeg) (xs (nI i + (3 : Int32)).toNatClampNeg) (xs (nI i + (4 : Int32)).toNatClampNeg) (xs (nI i + (5 : Int32)).toNatClampNeg) mv lf (gSh a) (sl 2) (sf 2) (ss 2) (si 2) (sl 1) (sf 1) (ss 1) (si 1) r lf' it' hs0 hs1  e1) (cwV 5 hts2 gL_law_X6_copy rfl rfl rfl (by decide +kernel) ⟨Nat.le_of_ble_eq_true rfl, Nat.le_of_ble_eq_true rfl⟩) (pre_V hK hN hw [0, 18, 23, 24, 21, 22] rfl rfl (C := RX6) (T := TX6) (N := 9) (ci := 6) (q0 := 0) rfl rfl) rfl rfl hl.1 rfl (lv_room (Nat.le_of_ble_eq_true rfl)) dL_law_780 ⟨Nat.le_of_ble_eq_true rfl, Nat.le_of_ble_eq_true rfl⟩) (fun H locs hw => ?_)
    refine lv_aload_n hx hb dL_law_783 rfl (lv_at hl 2 rfl) ?_
    refine lv_aload_n hx hb dL_law_784 rfl (lv_at hl 0 rfl) ?_
    refine lv_iload_n hx hb dL_law_785 rfl (lv_at hl 3 rfl) ?_
    refine lv_iconst (v := (1 : Int32)) hx hb dL_law_786 (by decide) ?_
    refine lv_iadd hx hb dL_law_787 ?_
    refine va_sld hx hb hX hbl hbA hw.2.2 h_1 dL_law_788 ?_
    refine lv_aload_n hx hb dL_law_789 rfl (lv_at hl 0 rfl) ?_
    refine lv_iload_n hx hb dL_law_790 rfl (lv_at hl 3 rfl) ?_
    refine lv_iconst (v := (2 : Int32)) hx hb dL_law_791 (by decide) ?_
    refine lv_iadd hx hb dL_law_792 ?_
    refine va_sld hx hb hX hbl hbA hw.2.2 h_2 dL_law_793 ?_
    refine lv_aload_n hx hb dL_law_794 rfl (lv_at hl 0 rfl) ?_
    refine lv_iload_n hx hb dL_law_795 rfl (lv_at hl 3 rfl) ?_
    refine lv_iconst (v := (3 : Int32)) hx hb dL_law_796 (by decide) ?_
    refine lv_iadd hx hb dL_law_797 ?_
    refine va_sld hx hb hX hbl hbA hw.2.2 h_3 dL_law_798 ?_
    refine lv_aload_n hx hb dL_law_799 rfl (lv_at hl 0 rfl) ?_
    refine lv_iload_n hx hb dL_law_800 rfl (lv_at hl 3 rfl) ?_
    refine lv_iconst (v := (4 : Int32)) hx hb dL_law_801 (by decide) ?_
    refine lv_iadd hx hb dL_law_802 ?_
    refine va_sld hx hb hX hbl hbA hw.2.2 h_4 dL_law_803 ?_
    refine lv_aload_n hx hb dL_law_804 rfl (lv_at hl 0 rfl) ?_
    refine lv_iload_n hx hb dL_law_805 rfl (lv_at hl 3 rfl) ?_
    refine lv_iconst (v := (5 : Int32)) hx hb dL_law_806 (by decide) ?_
    refine lv_iadd hx hb dL_law_807 ?_
    refine va_sld hx hb hX hbl hbA hw.2.2 h_5 dL_law_808 ?_
    refine cl_i (wr := pick (LW cI cZ cJ cO qx qm a d mv lf' cb cm ps pl ts tb tl tr tS es eb el er eS rn rb rm rc un ub um uc sn sl sf ss (va_up si 1 it') mv lf my ts rn mb mn ml mp mL mR oL oR oM mr mw mS hT hF hS hI hM) [0, 1, 2, 3, 4, 5, 6, 7, 8, 9, 10, 11, 12, 13, 14, 15, 16, 17, 18, 19, 20, 21, 22, 23, 24, 25, 26, 28, 29, 30, 31, 32, 33, 34, 35, 36, 37, 38, 39]) (ws' := (LW cI cZ cJ cO qx qm a d mv lf' cb cm ps pl ts tb tl tr tS es eb el er eS rn rb rm rc un ub um uc sn sl sf ss (va_up si 1 it') mv lf' my ts rn mb mn ml mp mL mR oL oR oM mr mw mS hT hF hS hI' hM')) hA hw [27, 40, 41, 42, 43, 44] [0, 1, 2, 3, 4, 5, 6, 7, 8, 9, 10, 11, 12, 13, 14, 15, 16, 17, 18, 19, 20, 21, 22, 23, 24, 25, 26, 28, 29, 30, 31, 32, 33, 34, 35, 36, 37, 38, 39] [0, 1, 2, 3, 4, 5, 6, 7, 8, 9, 10, 11, 12, 13, 14, 15, 16, 17, 18, 19, 20, 21, 22, 23, 24, 25, 26, 39, 27, 28, 29, 30, 31, 32, 33, 34, 35, 36, 37, 38, 40, 41, 42, 43, 44] rfl rfl rfl (by decide) rfl rfl (va_runV (As := [.int (xs (nI i + (1 : Int32)).toNatClampNeg), .int (xs (nI i + (2 : Int32)).toNatClampNeg), .int (xs (nI i + (3 : Int32)).toNatClampNeg), .int (xs (nI i + (4 : Int32)).toNatClampNeg), .int (xs (nI i + (5 : Int32)).toNatClampNeg)]) (rest := [.int r]) S (c_X7_copy l D cI cZ cJ cO _ qm (d 0) (d 1) (d 2) (d 3) (d 4) (d 5) (d 6) (d 7) (d 8) (d 9) (d 10) (d 11) (d 12) (d 13) (d 14) (d 15) (d 16) 25000 (xs (nI i + (1 : Int32)).toNatClampNeg) (xs (nI i + (2 : Int32)).toNatClampNeg) (xs (nI i + (3 : Int32)).toNatClampNeg) (xs (nI i + (4 : Int32)).toNatClampNeg) (xs (nI i + (5 : Int32)).toNatClampNeg) mv my ts rn lf hT hF hS hI hM r lf' hI' hM'  e2) (cwV 5 hts2 gL_law_X7_copy rfl rfl rfl (by decide +kernel) ⟨Nat.le_of_ble_eq_true rfl, Nat.le_of_ble_eq_true rfl⟩) (pre_V hK hN hw [27, 40, 41, 42, 43, 44] rfl rfl (C := RX7) (T := TX7) (N := 22) (ci := 7) (q0 := 0) rfl rfl) rfl rfl hl.1 rfl (lv_room (Nat.le_of_ble_eq_true rfl)) dL_law_809 ⟨Nat.le_of_ble_eq_true rfl, Nat.le_of_ble_eq_true rfl⟩) (fun H locs hw => ?_)
    refine lv_icmp_eq (tgt := 920) hx hb dL_law_812 (by decide) (fun _ => ?_) (fun c9 => absurd rfl c9)
    exact hG mv lf' cb cm ps pl ts tb tl tr tS es eb el er eS rn rb rm rc un ub um uc sn sl sf ss (va_up si 1 it') my mb mn ml mp mL mR oL oR oM mr mw mS hT hF hS hI' hM' _ _ _ ⟨hB, hS_, hR, nH⟩ hw hl
  · have hs0 : shOf (xs (nI i + (1 : Int32)).toNatClampNeg) (gSh a) = some (a 22) := by rw [eA]; exact sh_2 a
    have hs1 : shOf (xs (nI i + (3 : Int32)).toNatClampNeg) (gSh a) = some (a 22) := by rw [e3]; exact sh_2 a
    obtain ⟨r, lf', it', hI', hM', e1, e2, nH⟩ := pu_copyE 25000 (Nat.le_refl _) (i := 2) (j := 2) (by decide) (by decide) eA e3 (xs (nI i + (2 : Int32)).toNatClampNeg) (xs (nI i + (4 : Int32)).toNatClampNeg) (xs (nI i + (5 : Int32)).toNatClampNeg) lf (gSh a) sl sf ss si hT hF hS hI hM hH
    rw [← copy_ss] at e1
    refine lv_aload_n hx hb dL_law_754 rfl (lv_at hl 1 rfl) ?_
    refine lv_aload_n hx hb dL_law_755 rfl (lv_at hl 0 rfl) ?_
    refine lv_iload_n hx hb dL_law_756 rfl (lv_at hl 3 rfl) ?_
    refine lv_iconst (v := (1 : Int32)) hx hb dL_law_757 (by decide) ?_
    refine lv_iadd hx hb dL_law_758 ?_
    refine va_sld hx hb hX hbl hbA hw.2.2 h_1 dL_law_759 ?_
    refine lv_aload_n hx hb dL_law_760 rfl (lv_at hl 0 rfl) ?_
    refine lv_iload_n hx hb dL_law_761 rfl (lv_at hl 3 rfl) ?_
    refine lv_iconst (v := (2 : Int32)) hx hb dL_law_762 (by decide) ?_
    refine lv_iadd hx hb dL_law_763 ?_
    refine va_sld hx hb hX hbl hbA hw.2.2 h_2 dL_law_764 ?_
    refine lv_aload_n hx hb dL_law_765 rfl (lv_at hl 0 rfl) ?_
    refine lv_iload_n hx hb dL_law_766 rfl (lv_at hl 3 rfl) ?_
    refine lv_iconst (v := (3 : Int32)) hx hb dL_law_767 (by decide) ?_
    refine lv_iadd hx hb dL_law_768 ?_
    refine va_sld hx hb hX hbl hbA hw.2.2 h_3 dL_law_769 ?_
    refine lv_aload_n hx hb dL_law_770 rfl (lv_at hl 0 rfl) ?_
    refine lv_iload_n hx hb dL_law_771 rfl (lv_at hl 3 rfl) ?_
    refine lv_iconst (v := (4 : Int32)) hx hb dL_law_772 (by decide) ?_
    refine lv_iadd hx hb dL_law_773 ?_
    refine va_sld hx hb hX hbl hbA hw.2.2 h_4 dL_law_774 ?_
    refine lv_aload_n hx hb dL_law_775 rfl (lv_at hl 0 rfl) ?_
    refine lv_iload_n hx hb dL_law_776 rfl (lv_at hl 3 rfl) ?_
    refine lv_iconst (v := (5 : Int32)) hx hb dL_law_777 (by decide) ?_
    refine lv_iadd hx hb dL_law_778 ?_
    refine va_sld hx hb hX hbl hbA hw.2.2 h_5 dL_law_779 ?_
    refine cl_i (wr := pick (LW cI cZ cJ cO qx qm a d mv lf cb cm ps pl ts tb tl tr tS es eb el er eS rn rb rm rc un ub um uc sn sl sf ss si mv lf my ts rn mb mn ml mp mL mR oL oR oM mr mw mS hT hF hS hI hM) [1, 2, 3, 4, 5, 6, 7, 8, 9, 10, 11, 12, 13, 14, 15, 16, 17, 19, 20, 21, 22, 25, 26, 27, 28, 29, 30, 31, 32, 33, 34, 35, 36, 37, 38, 39, 40, 41, 42, 43, 44]) (ws' := (LW cI cZ cJ cO qx qm a d mv lf' cb cm ps pl ts tb tl tr tS es eb el er eS rn rb rm rc un ub um uc sn sl sf ss (va_up si 2 it') mv lf my ts rn mb mn ml mp mL mR oL oR oM mr mw mS hT hF hS hI hM)) hA hw [0, 18, 23, 24] [1, 2, 3, 4, 5, 6, 7, 8, 9, 10, 11, 12, 13, 14, 15, 16, 17, 19, 20, 21, 22, 25, 26, 27, 28, 29, 30, 31, 32, 33, 34, 35, 36, 37, 38, 39, 40, 41, 42, 43, 44] [41, 0, 1, 2, 3, 4, 5, 6, 7, 8, 9, 10, 11, 12, 13, 14, 15, 16, 42, 17, 18, 19, 20, 43, 44, 21, 22, 23, 24, 25, 26, 27, 28, 29, 30, 31, 32, 33, 34, 35, 36, 37, 38, 39, 40] rfl rfl rfl (by decide) rfl rfl (va_runV (As := [.int (xs (nI i + (1 : Int32)).toNatClampNeg), .int (xs (nI i + (2 : Int32)).toNatClampNeg), .int (xs (nI i + (3 : Int32)).toNatClampNeg), .int (xs (nI i + (4 : Int32)).toNatClampNeg), .int (xs (nI i + (5 : Int32)).toNatClampNeg)]) (rest := []) S (c_X6_copy_S_S l D cI cZ cJ cO _ qx (a 0) (a 3) (a 5) (a 9) (a 13) (a 14) (a 17) (a 22) (a 23) 25000 (xs (nI i + (1 : Int32)).toNatClampNeg) (xs (nI i + (2 : Int32)).toNatClampNeg) (xs (nI i + (3 : Int32)).toNatClampNeg) (xs (nI i + (4 : Int32)).toNatClampNeg) (xs (nI i + (5 : Int32)).toNatClampNeg) mv lf (gSh a) (sl 2) (sf 2) (ss 2) (si 2) r lf' it' hs0 hs1  e1) (cwV 5 hts2 gL_law_X6_copy rfl rfl rfl (by decide +kernel) ⟨Nat.le_of_ble_eq_true rfl, Nat.le_of_ble_eq_true rfl⟩) (pre_V hK hN hw [0, 18, 23, 24] rfl rfl (C := RX6) (T := TX6) (N := 9) (ci := 6) (q0 := 0) rfl rfl) rfl rfl hl.1 rfl (lv_room (Nat.le_of_ble_eq_true rfl)) dL_law_780 ⟨Nat.le_of_ble_eq_true rfl, Nat.le_of_ble_eq_true rfl⟩) (fun H locs hw => ?_)
    refine lv_aload_n hx hb dL_law_783 rfl (lv_at hl 2 rfl) ?_
    refine lv_aload_n hx hb dL_law_784 rfl (lv_at hl 0 rfl) ?_
    refine lv_iload_n hx hb dL_law_785 rfl (lv_at hl 3 rfl) ?_
    refine lv_iconst (v := (1 : Int32)) hx hb dL_law_786 (by decide) ?_
    refine lv_iadd hx hb dL_law_787 ?_
    refine va_sld hx hb hX hbl hbA hw.2.2 h_1 dL_law_788 ?_
    refine lv_aload_n hx hb dL_law_789 rfl (lv_at hl 0 rfl) ?_
    refine lv_iload_n hx hb dL_law_790 rfl (lv_at hl 3 rfl) ?_
    refine lv_iconst (v := (2 : Int32)) hx hb dL_law_791 (by decide) ?_
    refine lv_iadd hx hb dL_law_792 ?_
    refine va_sld hx hb hX hbl hbA hw.2.2 h_2 dL_law_793 ?_
    refine lv_aload_n hx hb dL_law_794 rfl (lv_at hl 0 rfl) ?_
    refine lv_iload_n hx hb dL_law_795 rfl (lv_at hl 3 rfl) ?_
    refine lv_iconst (v := (3 : Int32)) hx hb dL_law_796 (by decide) ?_
    refine lv_iadd hx hb dL_law_797 ?_
    refine va_sld hx hb hX hbl hbA hw.2.2 h_3 dL_law_798 ?_
    refine lv_aload_n hx hb dL_law_799 rfl (lv_at hl 0 rfl) ?_
    refine lv_iload_n hx hb dL_law_800 rfl (lv_at hl 3 rfl) ?_
    refine lv_iconst (v := (4 : Int32)) hx hb dL_law_801 (by decide) ?_
    refine lv_iadd hx hb dL_law_802 ?_
    refine va_sld hx hb hX hbl hbA hw.2.2 h_4 dL_law_803 ?_
    refine lv_aload_n hx hb dL_law_804 rfl (lv_at hl 0 rfl) ?_
    refine lv_iload_n hx hb dL_law_805 rfl (lv_at hl 3 rfl) ?_
    refine lv_iconst (v := (5 : Int32)) hx hb dL_law_806 (by decide) ?_
    refine lv_iadd hx hb dL_law_807 ?_
    refine va_sld hx hb hX hbl hbA hw.2.2 h_5 dL_law_808 ?_
    refine cl_i (wr := pick (LW cI cZ cJ cO qx qm a d mv lf' cb cm ps pl ts tb tl tr tS es eb el er eS rn rb rm rc un ub um uc sn sl sf ss (va_up si 2 it') mv lf my ts rn mb mn ml mp mL mR oL oR oM mr mw mS hT hF hS hI hM) [0, 1, 2, 3, 4, 5, 6, 7, 8, 9, 10, 11, 12, 13, 14, 15, 16, 17, 18, 19, 20, 21, 22, 23, 24, 25, 26, 28, 29, 30, 31, 32, 33, 34, 35, 36, 37, 38, 39]) (ws' := (LW cI cZ cJ cO qx qm a d mv lf' cb cm ps pl ts tb tl tr tS es eb el er eS rn rb rm rc un ub um uc sn sl sf ss (va_up si 2 it') mv lf' my ts rn mb mn ml mp mL mR oL oR oM mr mw mS hT hF hS hI' hM')) hA hw [27, 40, 41, 42, 43, 44] [0, 1, 2, 3, 4, 5, 6, 7, 8, 9, 10, 11, 12, 13, 14, 15, 16, 17, 18, 19, 20, 21, 22, 23, 24, 25, 26, 28, 29, 30, 31, 32, 33, 34, 35, 36, 37, 38, 39] [0, 1, 2, 3, 4, 5, 6, 7, 8, 9, 10, 11, 12, 13, 14, 15, 16, 17, 18, 19, 20, 21, 22, 23, 24, 25, 26, 39, 27, 28, 29, 30, 31, 32, 33, 34, 35, 36, 37, 38, 40, 41, 42, 43, 44] rfl rfl rfl (by decide) rfl rfl (va_runV (As := [.int (xs (nI i + (1 : Int32)).toNatClampNeg), .int (xs (nI i + (2 : Int32)).toNatClampNeg), .int (xs (nI i + (3 : Int32)).toNatClampNeg), .int (xs (nI i + (4 : Int32)).toNatClampNeg), .int (xs (nI i + (5 : Int32)).toNatClampNeg)]) (rest := [.int r]) S (c_X7_copy l D cI cZ cJ cO _ qm (d 0) (d 1) (d 2) (d 3) (d 4) (d 5) (d 6) (d 7) (d 8) (d 9) (d 10) (d 11) (d 12) (d 13) (d 14) (d 15) (d 16) 25000 (xs (nI i + (1 : Int32)).toNatClampNeg) (xs (nI i + (2 : Int32)).toNatClampNeg) (xs (nI i + (3 : Int32)).toNatClampNeg) (xs (nI i + (4 : Int32)).toNatClampNeg) (xs (nI i + (5 : Int32)).toNatClampNeg) mv my ts rn lf hT hF hS hI hM r lf' hI' hM'  e2) (cwV 5 hts2 gL_law_X7_copy rfl rfl rfl (by decide +kernel) ⟨Nat.le_of_ble_eq_true rfl, Nat.le_of_ble_eq_true rfl⟩) (pre_V hK hN hw [27, 40, 41, 42, 43, 44] rfl rfl (C := RX7) (T := TX7) (N := 22) (ci := 7) (q0 := 0) rfl rfl) rfl rfl hl.1 rfl (lv_room (Nat.le_of_ble_eq_true rfl)) dL_law_809 ⟨Nat.le_of_ble_eq_true rfl, Nat.le_of_ble_eq_true rfl⟩) (fun H locs hw => ?_)
    refine lv_icmp_eq (tgt := 920) hx hb dL_law_812 (by decide) (fun _ => ?_) (fun c9 => absurd rfl c9)
    exact hG mv lf' cb cm ps pl ts tb tl tr tS es eb el er eS rn rb rm rc un ub um uc sn sl sf ss (va_up si 2 it') my mb mn ml mp mL mR oL oR oM mr mw mS hT hF hS hI' hM' _ _ _ ⟨hB, hS_, hR, nH⟩ hw hl
  · have hs0 : shOf (xs (nI i + (1 : Int32)).toNatClampNeg) (gSh a) = some (a 22) := by rw [eA]; exact sh_2 a
    have hs1 : shOf (xs (nI i + (3 : Int32)).toNatClampNeg) (gSh a) = some (a 24) := by rw [e3]; exact sh_3 a
    obtain ⟨r, lf', it', hI', hM', e1, e2, nH⟩ := pu_copyE 25000 (Nat.le_refl _) (i := 2) (j := 3) (by decide) (by decide) eA e3 (xs (nI i + (2 : Int32)).toNatClampNeg) (xs (nI i + (4 : Int32)).toNatClampNeg) (xs (nI i + (5 : Int32)).toNatClampNeg) lf (gSh a) sl sf ss si hT hF hS hI hM hH
    refine lv_aload_n hx hb dL_law_754 rfl (lv_at hl 1 rfl) ?_
    refine lv_aload_n hx hb dL_law_755 rfl (lv_at hl 0 rfl) ?_
    refine lv_iload_n hx hb dL_law_756 rfl (lv_at hl 3 rfl) ?_
    refine lv_iconst (v := (1 : Int32)) hx hb dL_law_757 (by decide) ?_
    refine lv_iadd hx hb dL_law_758 ?_
    refine va_sld hx hb hX hbl hbA hw.2.2 h_1 dL_law_759 ?_
    refine lv_aload_n hx hb dL_law_760 rfl (lv_at hl 0 rfl) ?_
    refine lv_iload_n hx hb dL_law_761 rfl (lv_at hl 3 rfl) ?_
    refine lv_iconst (v := (2 : Int32)) hx hb dL_law_762 (by decide) ?_
    refine lv_iadd hx hb dL_law_763 ?_
    refine va_sld hx hb hX hbl hbA hw.2.2 h_2 dL_law_764 ?_
    refine lv_aload_n hx hb dL_law_765 rfl (lv_at hl 0 rfl) ?_
    refine lv_iload_n hx hb dL_law_766 rfl (lv_at hl 3 rfl) ?_
    refine lv_iconst (v := (3 : Int32)) hx hb dL_law_767 (by decide) ?_
    refine lv_iadd hx hb dL_law_768 ?_
    refine va_sld hx hb hX hbl hbA hw.2.2 h_3 dL_law_769 ?_
    refine lv_aload_n hx hb dL_law_770 rfl (lv_at hl 0 rfl) ?_
    refine lv_iload_n hx hb dL_law_771 rfl (lv_at hl 3 rfl) ?_
    refine lv_iconst (v := (4 : Int32)) hx hb dL_law_772 (by decide) ?_
    refine lv_iadd hx hb dL_law_773 ?_
    refine va_sld hx hb hX hbl hbA hw.2.2 h_4 dL_law_774 ?_
    refine lv_aload_n hx hb dL_law_775 rfl (lv_at hl 0 rfl) ?_
    refine lv_iload_n hx hb dL_law_776 rfl (lv_at hl 3 rfl) ?_
    refine lv_iconst (v := (5 : Int32)) hx hb dL_law_777 (by decide) ?_
    refine lv_iadd hx hb dL_law_778 ?_
    refine va_sld hx hb hX hbl hbA hw.2.2 h_5 dL_law_779 ?_
    refine cl_i (wr := pick (LW cI cZ cJ cO qx qm a d mv lf cb cm ps pl ts tb tl tr tS es eb el er eS rn rb rm rc un ub um uc sn sl sf ss si mv lf my ts rn mb mn ml mp mL mR oL oR oM mr mw mS hT hF hS hI hM) [1, 2, 3, 4, 5, 6, 7, 8, 9, 10, 11, 12, 13, 14, 15, 16, 17, 19, 20, 21, 22, 27, 28, 29, 30, 31, 32, 33, 34, 35, 36, 37, 38, 39, 40, 41, 42, 43, 44]) (ws' := (LW cI cZ cJ cO qx qm a d mv lf' cb cm ps pl ts tb tl tr tS es eb el er eS rn rb rm rc un ub um uc sn sl sf ss (va_up si 3 it') mv lf my ts rn mb mn ml mp mL mR oL oR oM mr mw mS hT hF hS hI hM)) hA hw [0, 18, 23, 24, 25, 26] [1, 2, 3, 4, 5, 6, 7, 8, 9, 10, 11, 12, 13, 14, 15, 16, 17, 19, 20, 21, 22, 27, 28, 29, 30, 31, 32, 33, 34, 35, 36, 37, 38, 39, 40, 41, 42, 43, 44] [39, 0, 1, 2, 3, 4, 5, 6, 7, 8, 9, 10, 11, 12, 13, 14, 15, 16, 40, 17, 18, 19, 20, 41, 42, 43, 44, 21, 22, 23, 24, 25, 26, 27, 28, 29, 30, 31, 32, 33, 34, 35, 36, 37, 38] rfl rfl rfl (by decide) rfl rfl (va_runV (As := [.int (xs (nI i + (1 : Int32)).toNatClampNeg), .int (xs (nI i + (2 : Int32)).toNatClampNeg), .int (xs (nI i + (3 : Int32)).toNatClampNeg), .int (xs (nI i + (4 : Int32)).toNatClampNeg), .int (xs (nI i + (5 : Int32)).toNatClampNeg)]) (rest := []) S (c_X6_copy_S_T l D cI cZ cJ cO _ qx (a 0) (a 3) (a 5) (a 9) (a 13) (a 14) (a 17) (a 22) (a 23) (a 24) (a 25) 25000 (xs (nI i + (1 : Int32)).toNatClampNeg) (xs (nI i + (2 : Int32)).toNatClampNeg) (xs (nI i + (3 : Int32)).toNatClampNeg) (xs (nI i + (4 : Int32)).toNatClampNeg) (xs (nI i + (5 : Int32)).toNatClampNeg) mv lf (gSh a) (sl 2) (sf 2) (ss 2) (si 2) (sl 3) (sf 3) (ss 3) (si 3) r lf' it' hs0 hs1  e1) (cwV 5 hts2 gL_law_X6_copy rfl rfl rfl (by decide +kernel) ⟨Nat.le_of_ble_eq_true rfl, Nat.le_of_ble_eq_true rfl⟩) (pre_V hK hN hw [0, 18, 23, 24, 25, 26] rfl rfl (C := RX6) (T := TX6) (N := 9) (ci := 6) (q0 := 0) rfl rfl) rfl rfl hl.1 rfl (lv_room (Nat.le_of_ble_eq_true rfl)) dL_law_780 ⟨Nat.le_of_ble_eq_true rfl, Nat.le_of_ble_eq_true rfl⟩) (fun H locs hw => ?_)
    refine lv_aload_n hx hb dL_law_783 rfl (lv_at hl 2 rfl) ?_
    refine lv_aload_n hx hb dL_law_784 rfl (lv_at hl 0 rfl) ?_
    refine lv_iload_n hx hb dL_law_785 rfl (lv_at hl 3 rfl) ?_
    refine lv_iconst (v := (1 : Int32)) hx hb dL_law_786 (by decide) ?_
    refine lv_iadd hx hb dL_law_787 ?_
    refine va_sld hx hb hX hbl hbA hw.2.2 h_1 dL_law_788 ?_
    refine lv_aload_n hx hb dL_law_789 rfl (lv_at hl 0 rfl) ?_
    refine lv_iload_n hx hb dL_law_790 rfl (lv_at hl 3 rfl) ?_
    refine lv_iconst (v := (2 : Int32)) hx hb dL_law_791 (by decide) ?_
    refine lv_iadd hx hb dL_law_792 ?_
    refine va_sld hx hb hX hbl hbA hw.2.2 h_2 dL_law_793 ?_
    refine lv_aload_n hx hb dL_law_794 rfl (lv_at hl 0 rfl) ?_
    refine lv_iload_n hx hb dL_law_795 rfl (lv_at hl 3 rfl) ?_
    refine lv_iconst (v := (3 : Int32)) hx hb dL_law_796 (by decide) ?_
    refine lv_iadd hx hb dL_law_797 ?_
    refine va_sld hx hb hX hbl hbA hw.2.2 h_3 dL_law_798 ?_
    refine lv_aload_n hx hb dL_law_799 rfl (lv_at hl 0 rfl) ?_
    refine lv_iload_n hx hb dL_law_800 rfl (lv_at hl 3 rfl) ?_
    refine lv_iconst (v := (4 : Int32)) hx hb dL_law_801 (by decide) ?_
    refine lv_iadd hx hb dL_law_802 ?_
    refine va_sld hx hb hX hbl hbA hw.2.2 h_4 dL_law_803 ?_
    refine lv_aload_n hx hb dL_law_804 rfl (lv_at hl 0 rfl) ?_
    refine lv_iload_n hx hb dL_law_805 rfl (lv_at hl 3 rfl) ?_
    refine lv_iconst (v := (5 : Int32)) hx hb dL_law_806 (by decide) ?_
    refine lv_iadd hx hb dL_law_807 ?_
    refine va_sld hx hb hX hbl hbA hw.2.2 h_5 dL_law_808 ?_
    refine cl_i (wr := pick (LW cI cZ cJ cO qx qm a d mv lf' cb cm ps pl ts tb tl tr tS es eb el er eS rn rb rm rc un ub um uc sn sl sf ss (va_up si 3 it') mv lf my ts rn mb mn ml mp mL mR oL oR oM mr mw mS hT hF hS hI hM) [0, 1, 2, 3, 4, 5, 6, 7, 8, 9, 10, 11, 12, 13, 14, 15, 16, 17, 18, 19, 20, 21, 22, 23, 24, 25, 26, 28, 29, 30, 31, 32, 33, 34, 35, 36, 37, 38, 39]) (ws' := (LW cI cZ cJ cO qx qm a d mv lf' cb cm ps pl ts tb tl tr tS es eb el er eS rn rb rm rc un ub um uc sn sl sf ss (va_up si 3 it') mv lf' my ts rn mb mn ml mp mL mR oL oR oM mr mw mS hT hF hS hI' hM')) hA hw [27, 40, 41, 42, 43, 44] [0, 1, 2, 3, 4, 5, 6, 7, 8, 9, 10, 11, 12, 13, 14, 15, 16, 17, 18, 19, 20, 21, 22, 23, 24, 25, 26, 28, 29, 30, 31, 32, 33, 34, 35, 36, 37, 38, 39] [0, 1, 2, 3, 4, 5, 6, 7, 8, 9, 10, 11, 12, 13, 14, 15, 16, 17, 18, 19, 20, 21, 22, 23, 24, 25, 26, 39, 27, 28, 29, 30, 31, 32, 33, 34, 35, 36, 37, 38, 40, 41, 42, 43, 44] rfl rfl rfl (by decide) rfl rfl (va_runV (As := [.int (xs (nI i + (1 : Int32)).toNatClampNeg), .int (xs (nI i + (2 : Int32)).toNatClampNeg), .int (xs (nI i + (3 : Int32)).toNatClampNeg), .int (xs (nI i + (4 : Int32)).toNatClampNeg), .int (xs (nI i + (5 : Int32)).toNatClampNeg)]) (rest := [.int r]) S (c_X7_copy l D cI cZ cJ cO _ qm (d 0) (d 1) (d 2) (d 3) (d 4) (d 5) (d 6) (d 7) (d 8) (d 9) (d 10) (d 11) (d 12) (d 13) (d 14) (d 15) (d 16) 25000 (xs (nI i + (1 : Int32)).toNatClampNeg) (xs (nI i + (2 : Int32)).toNatClampNeg) (xs (nI i + (3 : Int32)).toNatClampNeg) (xs (nI i + (4 : Int32)).toNatClampNeg) (xs (nI i + (5 : Int32)).toNatClampNeg) mv my ts rn lf hT hF hS hI hM r lf' hI' hM'  e2) (cwV 5 hts2 gL_law_X7_copy rfl rfl rfl (by decide +kernel) ⟨Nat.le_of_ble_eq_true rfl, Nat.le_of_ble_eq_true rfl⟩) (pre_V hK hN hw [27, 40, 41, 42, 43, 44] rfl rfl (C := RX7) (T := TX7) (N := 22) (ci := 7) (q0 := 0) rfl rfl) rfl rfl hl.1 rfl (lv_room (Nat.le_of_ble_eq_true rfl)) dL_law_809 ⟨Nat.le_of_ble_eq_true rfl, Nat.le_of_ble_eq_true rfl⟩) (fun H locs hw => ?_)
    refine lv_icmp_eq (tgt := 920) hx hb dL_law_812 (by decide) (fun _ => ?_) (fun c9 => absurd rfl c9)
    exact hG mv lf' cb cm ps pl ts tb tl tr tS es eb el er eS rn rb rm rc un ub um uc sn sl sf ss (va_up si 3 it') my mb mn ml mp mL mR oL oR oM mr mw mS hT hF hS hI' hM' _ _ _ ⟨hB, hS_, hR, nH⟩ hw hl

set_option maxHeartbeats 4000000 in
set_option maxRecDepth 100000 in
theorem law_copy_3 {p : Program} {l : Launch} {e : Env} {s : State} {m : MethodId} {below : List Frame} {meth : Method} {c : Code} {D : va_G} {cI cZ cJ cO : ClassId} {b L qx qm : Nat} {a d : Nat → Nat} {xs : Nat → Int32} (hL : L ≤ 3072) (C0 : lw_At p s m meth c b L xs) (hts2 : ∀ w ∈ wsL_law, w.before #[Value.ref b] s = true) (hK : va_K D vwCl (TY cI cZ cJ cO) s) (hN : NW s) (i : Nat) (hi : i + 6 ≤ L) (hG : LGoal p l e s m below meth c D cI cZ cJ cO b qx qm a d i) (mv : Int32) (lf : Int32) (cb : (Nat → Int32)) (cm : (Nat → Int32)) (ps : Int32) (pl : (Nat → Int32)) (ts : Int32) (tb : Int32) (tl : (Nat → Int32)) (tr : (Nat → Int32)) (tS : (Nat → Int32)) (es : Int32) (eb : Int32) (el : (Nat → Int32)) (er : (Nat → Int32)) (eS : (Nat → Int32)) (rn : Int32) (rb : Int64) (rm : Int64) (rc : Int32) (un : Int32) (ub : Int64) (um : Int64) (uc : Int32) (sn : (Nat → Int64)) (sl : (Nat → Int32)) (sf : (Nat → Int32)) (ss : (Nat → Int32)) (si : (Nat → Nat → Int32)) (my : Int32) (mb : (Nat → Int32)) (mn : (Nat → Int32)) (ml : (Nat → Int32)) (mp : (Nat → Int32)) (mL : (Nat → Int32)) (mR : (Nat → Int32)) (oL : (Nat → Int32)) (oR : (Nat → Int32)) (oM : (Nat → Int32)) (mr : (Nat → Int32)) (mw : (Nat → Int32)) (mS : (Nat → Int32)) (hT : (Nat → Int32)) (hF : (Nat → Int32)) (hS : (Nat → Int32)) (hI : (Nat → Int32)) (hM : (Nat → Int32)) (H : Heap) (locs : List Loc) (ls : Array Slot) (eA : (xs (nI i + (1 : Int32)).toNatClampNeg) = nI 3) (k2 : Nat) (hk2 : k2 < 4) (e3 : (xs (nI i + (3 : Int32)).toNatClampNeg) = nI k2) (hInv : (Inv cb mb tl tr tS ts tb oL oR oM rn rb mr sl sf ss si hT hF hS hI)) (hw : Wd D (fun q : Nat => s.heap.size ≤ q) s.heap (LW cI cZ cJ cO qx qm a d mv lf cb cm ps pl ts tb tl tr tS es eb el er eS rn rb rm rc un ub um uc sn sl sf ss si mv lf my ts rn mb mn ml mp mL mR oL oR oM mr mw mS hT hF hS hI hM) H locs) (hl : lv_has ls 4 [(0, .ref b), (1, .ref qx), (2, .ref qm), (3, .int (nI i))]) : W p l e room_1 s m #[Value.ref b] below meth c H locs 45 5498 (lw_Z below #[Value.ref b] s) (F0 m 754 ls []) := by
  obtain ⟨hx, hb, hr, hml, hown, hts, hX, hbl, hlocks, hgv⟩ := C0
  have hA : ∀ q : Nat, s.heap.size ≤ q → (fun q : Nat => s.heap.size ≤ q) q := fun _ h => h
  have hbA : ¬ (fun q : Nat => s.heap.size ≤ q) b := Nat.not_le.mpr hbl
  have S : CallFix p m c cL_law 4 s #[Value.ref b] wsL_law RL := ⟨hx, hb, hml, hown, hts2⟩
  have hb : c.code = cL_law := hb
  obtain ⟨hB, hS_, hR, hH⟩ := hInv
  have h_1 : vp_in (nI i + (1 : Int32)) L := by rw [show nI i + (1 : Int32) = nI (i + 1) from nI_add i 1]; exact vp_in_nI (by omega) (by omega)
  have h_2 : vp_in (nI i + (2 : Int32)) L := by rw [show nI i + (2 : Int32) = nI (i + 2) from nI_add i 2]; exact vp_in_nI (by omega) (by omega)
  have h_3 : vp_in (nI i + (3 : Int32)) L := by rw [show nI i + (3 : Int32) = nI (i + 3) from nI_add i 3]; exact vp_in_nI (by omega) (by omega)
  have h_4 : vp_in (nI i + (4 : Int32)) L := by rw [show nI i + (4 : Int32) = nI (i + 4) from nI_add i 4]; exact vp_in_nI (by omega) (by omega)
  have h_5 : vp_in (nI i + (5 : Int32)) L := by rw [show nI i + (5 : Int32) = nI (i + 5) from nI_add i 5]; exact vp_in_nI (by omega) (by omega)
  rcases (show k2 = 0 ∨ k2 = 1 ∨ k2 = 2 ∨ k2 = 3 by omega) with rfl | rfl | rfl | rfl
  · have hs0 : shOf (xs (nI i + (1 : Int32)).toNatClampNeg) (gSh a) = some (a 24) := by rw [eA]; exact sh_3 a
    have hs1 : shOf (xs (nI i + (3 : Int32)).toNatClampNeg) (gSh a) = some (a 18) := by rw [e3]; exact sh_0 a
    obtain ⟨r, lf', it', hI', hM', e1, e2, nH⟩ := pu_copyE 25000 (Nat.le_refl _) (i := 3) (j := 0) (by decide) (by decide) eA e3 (xs (nI i + (2 : Int32)).toNatClampNeg) (xs (nI i + (4 : Int32)).toNatClampNeg) (xs (nI i + (5 : Int32)).toNatClampNeg) lf (gSh a) sl sf ss si hT hF hS hI hM hH
    refine lv_aload_n hx hb dL_law_754 rfl (lv_at hl 1 rfl) ?_
    refine lv_aload_n hx hb dL_law_755 rfl (lv_at hl 0 rfl) ?_
    refine lv_iload_n hx hb dL_law_756 rfl (lv_at hl 3 rfl) ?_
    refine lv_iconst (v := (1 : Int32)) hx hb dL_law_757 (by decide) ?_
    refine lv_iadd hx hb dL_law_758 ?_
    refine va_sld hx hb hX hbl hbA hw.2.2 h_1 dL_law_759 ?_
    refine lv_aload_n hx hb dL_law_760 rfl (lv_at hl 0 rfl) ?_
    refine lv_iload_n hx hb dL_law_761 rfl (lv_at hl 3 rfl) ?_
    refine lv_iconst (v := (2 : Int32)) hx hb dL_law_762 (by decide) ?_
    refine lv_iadd hx hb dL_law_763 ?_
    refine va_sld hx hb hX hbl hbA hw.2.2 h_2 dL_law_764 ?_
    refine lv_aload_n hx hb dL_law_765 rfl (lv_at hl 0 rfl) ?_
    refine lv_iload_n hx hb dL_law_766 rfl (lv_at hl 3 rfl) ?_
    refine lv_iconst (v := (3 : Int32)) hx hb dL_law_767 (by decide) ?_
    refine lv_iadd hx hb dL_law_768 ?_
    refine va_sld hx hb hX hbl hbA hw.2.2 h_3 dL_law_769 ?_
    refine lv_aload_n hx hb dL_law_770 rfl (lv_at hl 0 rfl) ?_
    refine lv_iload_n hx hb dL_law_771 rfl (lv_at hl 3 rfl) ?_
    refine lv_iconst (v := (4 : Int32)) hx hb dL_law_772 (by decide) ?_
    refine lv_iadd hx hb dL_law_773 ?_
    refine va_sld hx hb hX hbl hbA hw.2.2 h_4 dL_law_774 ?_
    refine lv_aload_n hx hb dL_law_775 rfl (lv_at hl 0 rfl) ?_
    refine lv_iload_n hx hb dL_law_776 rfl (lv_at hl 3 rfl) ?_
    refine lv_iconst (v := (5 : Int32)) hx hb dL_law_777 (by decide) ?_
    refine lv_iadd hx hb dL_law_778 ?_
    refine va_sld hx hb hX hbl hbA hw.2.2 h_5 dL_law_779 ?_
    refine cl_i (wr := pick (LW cI cZ cJ cO qx qm a d mv lf cb cm ps pl ts tb tl tr tS es eb el er eS rn rb rm rc un ub um uc sn sl sf ss si mv lf my ts rn mb mn ml mp mL mR oL oR oM mr mw mS hT hF hS hI hM) [1, 2, 3, 4, 5, 6, 7, 8, 9, 10, 11, 12, 13, 14, 15, 16, 17, 21, 22, 23, 24, 27, 28, 29, 30, 31, 32, 33, 34, 35, 36, 37, 38, 39, 40, 41, 42, 43, 44]) (ws' := (LW cI cZ cJ cO qx qm a d mv lf' cb cm ps pl ts tb tl tr tS es eb el er eS rn rb rm rc un ub um uc sn sl sf ss (va_up si 0 it') mv lf my ts rn mb mn ml mp mL mR oL oR oM mr mw mS hT hF hS hI hM)) hA hw [0, 18, 25, 26, 19, 20] [1, 2, 3, 4, 5, 6, 7, 8, 9, 10, 11, 12, 13, 14, 15, 16, 17, 21, 22, 23, 24, 27, 28, 29, 30, 31, 32, 33, 34, 35, 36, 37, 38, 39, 40, 41, 42, 43, 44] [39, 0, 1, 2, 3, 4, 5, 6, 7, 8, 9, 10, 11, 12, 13, 14, 15, 16, 40, 43, 44, 17, 18, 19, 20, 41, 42, 21, 22, 23, 24, 25, 26, 27, 28, 29, 30, 31, 32, 33, 34, 35, 36, 37, 38] rfl rfl rfl (by decide) rfl rfl (va_runV (As := [.int (xs (nI i + (1 : Int32)).toNatClampNeg), .int (xs (nI i + (2 : Int32)).toNatClampNeg), .int (xs (nI i + (3 : Int32)).toNatClampNeg), .int (xs (nI i + (4 : Int32)).toNatClampNeg), .int (xs (nI i + (5 : Int32)).toNatClampNeg)]) (rest := []) S (c_X6_copy_S_T l D cI cZ cJ cO _ qx (a 0) (a 3) (a 5) (a 9) (a 13) (a 14) (a 17) (a 24) (a 25) (a 18) (a 19) 25000 (xs (nI i + (1 : Int32)).toNatClampNeg) (xs (nI i + (2 : Int32)).toNatClampNeg) (xs (nI i + (3 : Int32)).toNatClampNeg) (xs (nI i + (4 : Int32)).toNatClampNeg) (xs (nI i + (5 : Int32)).toNatClampNeg) mv lf (gSh a) (sl 3) (sf 3) (ss 3) (si 3) (sl 0) (sf 0) (ss 0) (si 0) r lf' it' hs0 hs1  e1) (cwV 5 hts2 gL_law_X6_copy rfl rfl rfl (by decide +kernel) ⟨Nat.le_of_ble_eq_true rfl, Nat.le_of_ble_eq_true rfl⟩) (pre_V hK hN hw [0, 18, 25, 26, 19, 20] rfl rfl (C := RX6) (T := TX6) (N := 9) (ci := 6) (q0 := 0) rfl rfl) rfl rfl hl.1 rfl (lv_room (Nat.le_of_ble_eq_true rfl)) dL_law_780 ⟨Nat.le_of_ble_eq_true rfl, Nat.le_of_ble_eq_true rfl⟩) (fun H locs hw => ?_)
    refine lv_aload_n hx hb dL_law_783 rfl (lv_at hl 2 rfl) ?_
    refine lv_aload_n hx hb dL_law_784 rfl (lv_at hl 0 rfl) ?_
    refine lv_iload_n hx hb dL_law_785 rfl (lv_at hl 3 rfl) ?_
    refine lv_iconst (v := (1 : Int32)) hx hb dL_law_786 (by decide) ?_
    refine lv_iadd hx hb dL_law_787 ?_
    refine va_sld hx hb hX hbl hbA hw.2.2 h_1 dL_law_788 ?_
    refine lv_aload_n hx hb dL_law_789 rfl (lv_at hl 0 rfl) ?_
    refine lv_iload_n hx hb dL_law_790 rfl (lv_at hl 3 rfl) ?_
    refine lv_iconst (v := (2 : Int32)) hx hb dL_law_791 (by decide) ?_
    refine lv_iadd hx hb dL_law_792 ?_
    refine va_sld hx hb hX hbl hbA hw.2.2 h_2 dL_law_793 ?_
    refine lv_aload_n hx hb dL_law_794 rfl (lv_at hl 0 rfl) ?_
    refine lv_iload_n hx hb dL_law_795 rfl (lv_at hl 3 rfl) ?_
    refine lv_iconst (v := (3 : Int32)) hx hb dL_law_796 (by decide) ?_
    refine lv_iadd hx hb dL_law_797 ?_
    refine va_sld hx hb hX hbl hbA hw.2.2 h_3 dL_law_798 ?_
    refine lv_aload_n hx hb dL_law_799 rfl (lv_at hl 0 rfl) ?_
    refine lv_iload_n hx hb dL_law_800 rfl (lv_at hl 3 rfl) ?_
    refine lv_iconst (v := (4 : Int32)) hx hb dL_law_801 (by decide) ?_
    refine lv_iadd hx hb dL_law_802 ?_
    refine va_sld hx hb hX hbl hbA hw.2.2 h_4 dL_law_803 ?_
    refine lv_aload_n hx hb dL_law_804 rfl (lv_at hl 0 rfl) ?_
    refine lv_iload_n hx hb dL_law_805 rfl (lv_at hl 3 rfl) ?_
    refine lv_iconst (v := (5 : Int32)) hx hb dL_law_806 (by decide) ?_
    refine lv_iadd hx hb dL_law_807 ?_
    refine va_sld hx hb hX hbl hbA hw.2.2 h_5 dL_law_808 ?_
    refine cl_i (wr := pick (LW cI cZ cJ cO qx qm a d mv lf' cb cm ps pl ts tb tl tr tS es eb el er eS rn rb rm rc un ub um uc sn sl sf ss (va_up si 0 it') mv lf my ts rn mb mn ml mp mL mR oL oR oM mr mw mS hT hF hS hI hM) [0, 1, 2, 3, 4, 5, 6, 7, 8, 9, 10, 11, 12, 13, 14, 15, 16, 17, 18, 19, 20, 21, 22, 23, 24, 25, 26, 28, 29, 30, 31, 32, 33, 34, 35, 36, 37, 38, 39]) (ws' := (LW cI cZ cJ cO qx qm a d mv lf' cb cm ps pl ts tb tl tr tS es eb el er eS rn rb rm rc un ub um uc sn sl sf ss (va_up si 0 it') mv lf' my ts rn mb mn ml mp mL mR oL oR oM mr mw mS hT hF hS hI' hM')) hA hw [27, 40, 41, 42, 43, 44] [0, 1, 2, 3, 4, 5, 6, 7, 8, 9, 10, 11, 12, 13, 14, 15, 16, 17, 18, 19, 20, 21, 22, 23, 24, 25, 26, 28, 29, 30, 31, 32, 33, 34, 35, 36, 37, 38, 39] [0, 1, 2, 3, 4, 5, 6, 7, 8, 9, 10, 11, 12, 13, 14, 15, 16, 17, 18, 19, 20, 21, 22, 23, 24, 25, 26, 39, 27, 28, 29, 30, 31, 32, 33, 34, 35, 36, 37, 38, 40, 41, 42, 43, 44] rfl rfl rfl (by decide) rfl rfl (va_runV (As := [.int (xs (nI i + (1 : Int32)).toNatClampNeg), .int (xs (nI i + (2 : Int32)).toNatClampNeg), .int (xs (nI i + (3 : Int32)).toNatClampNeg), .int (xs (nI i + (4 : Int32)).toNatClampNeg), .int (xs (nI i + (5 : Int32)).toNatClampNeg)]) (rest := [.int r]) S (c_X7_copy l D cI cZ cJ cO _ qm (d 0) (d 1) (d 2) (d 3) (d 4) (d 5) (d 6) (d 7) (d 8) (d 9) (d 10) (d 11) (d 12) (d 13) (d 14) (d 15) (d 16) 25000 (xs (nI i + (1 : Int32)).toNatClampNeg) (xs (nI i + (2 : Int32)).toNatClampNeg) (xs (nI i + (3 : Int32)).toNatClampNeg) (xs (nI i + (4 : Int32)).toNatClampNeg) (xs (nI i + (5 : Int32)).toNatClampNeg) mv my ts rn lf hT hF hS hI hM r lf' hI' hM'  e2) (cwV 5 hts2 gL_law_X7_copy rfl rfl rfl (by decide +kernel) ⟨Nat.le_of_ble_eq_true rfl, Nat.le_of_ble_eq_true rfl⟩) (pre_V hK hN hw [27, 40, 41, 42, 43, 44] rfl rfl (C := RX7) (T := TX7) (N := 22) (ci := 7) (q0 := 0) rfl rfl) rfl rfl hl.1 rfl (lv_room (Nat.le_of_ble_eq_true rfl)) dL_law_809 ⟨Nat.le_of_ble_eq_true rfl, Nat.le_of_ble_eq_true rfl⟩) (fun H locs hw => ?_)
    refine lv_icmp_eq (tgt := 920) hx hb dL_law_812 (by decide) (fun _ => ?_) (fun c9 => absurd rfl c9)
    exact hG mv lf' cb cm ps pl ts tb tl tr tS es eb el er eS rn rb rm rc un ub um uc sn sl sf ss (va_up si 0 it') my mb mn ml mp mL mR oL oR oM mr mw mS hT hF hS hI' hM' _ _ _ ⟨hB, hS_, hR, nH⟩ hw hl
  · have hs0 : shOf (xs (nI i + (1 : Int32)).toNatClampNeg) (gSh a) = some (a 24) := by rw [eA]; exact sh_3 a
    have hs1 : shOf (xs (nI i + (3 : Int32)).toNatClampNeg) (gSh a) = some (a 20) := by rw [e3]; exact sh_1 a
    obtain ⟨r, lf', it', hI', hM', e1, e2, nH⟩ := pu_copyE 25000 (Nat.le_refl _) (i := 3) (j := 1) (by decide) (by decide) eA e3 (xs (nI i + (2 : Int32)).toNatClampNeg) (xs (nI i + (4 : Int32)).toNatClampNeg) (xs (nI i + (5 : Int32)).toNatClampNeg) lf (gSh a) sl sf ss si hT hF hS hI hM hH
    refine lv_aload_n hx hb dL_law_754 rfl (lv_at hl 1 rfl) ?_
    refine lv_aload_n hx hb dL_law_755 rfl (lv_at hl 0 rfl) ?_
    refine lv_iload_n hx hb dL_law_756 rfl (lv_at hl 3 rfl) ?_
    refine lv_iconst (v := (1 : Int32)) hx hb dL_law_757 (by decide) ?_
    refine lv_iadd hx hb dL_law_758 ?_
    refine va_sld hx hb hX hbl hbA hw.2.2 h_1 dL_law_759 ?_
    refine lv_aload_n hx hb dL_law_760 rfl (lv_at hl 0 rfl) ?_
    refine lv_iload_n hx hb dL_law_761 rfl (lv_at hl 3 rfl) ?_
    refine lv_iconst (v := (2 : Int32)) hx hb dL_law_762 (by decide) ?_
    refine lv_iadd hx hb dL_law_763 ?_
    refine va_sld hx hb hX hbl hbA hw.2.2 h_2 dL_law_764 ?_
    refine lv_aload_n hx hb dL_law_765 rfl (lv_at hl 0 rfl) ?_
    refine lv_iload_n hx hb dL_law_766 rfl (lv_at hl 3 rfl) ?_
    refine lv_iconst (v := (3 : Int32)) hx hb dL_law_767 (by decide) ?_
    refine lv_iadd hx hb dL_law_768 ?_
    refine va_sld hx hb hX hbl hbA hw.2.2 h_3 dL_law_769 ?_
    refine lv_aload_n hx hb dL_law_770 rfl (lv_at hl 0 rfl) ?_
    refine lv_iload_n hx hb dL_law_771 rfl (lv_at hl 3 rfl) ?_
    refine lv_iconst (v := (4 : Int32)) hx hb dL_law_772 (by decide) ?_
    refine lv_iadd hx hb dL_law_773 ?_
    refine va_sld hx hb hX hbl hbA hw.2.2 h_4 dL_law_774 ?_
    refine lv_aload_n hx hb dL_law_775 rfl (lv_at hl 0 rfl) ?_
    refine lv_iload_n hx hb dL_law_776 rfl (lv_at hl 3 rfl) ?_
    refine lv_iconst (v := (5 : Int32)) hx hb dL_law_777 (by decide) ?_
    refine lv_iadd hx hb dL_law_778 ?_
    refine va_sld hx hb hX hbl hbA hw.2.2 h_5 dL_law_779 ?_
    refine cl_i (wr := pick (LW cI cZ cJ cO qx qm a d mv lf cb cm ps pl ts tb tl tr tS es eb el er eS rn rb rm rc un ub um uc sn sl sf ss si mv lf my ts rn mb mn ml mp mL mR oL oR oM mr mw mS hT hF hS hI hM) [1, 2, 3, 4, 5, 6, 7, 8, 9, 10, 11, 12, 13, 14, 15, 16, 17, 19, 20, 23, 24, 27, 28, 29, 30, 31, 32, 33, 34, 35, 36, 37, 38, 39, 40, 41, 42, 43, 44]) (ws' := (LW cI cZ cJ cO qx qm a d mv lf' cb cm ps pl ts tb tl tr tS es eb el er eS rn rb rm rc un ub um uc sn sl sf ss (va_up si 1 it') mv lf my ts rn mb mn ml mp mL mR oL oR oM mr mw mS hT hF hS hI hM)) hA hw [0, 18, 25, 26, 21, 22] [1, 2, 3, 4, 5, 6, 7, 8, 9, 10, 11, 12, 13, 14, 15, 16, 17, 19, 20, 23, 24, 27, 28, 29, 30, 31, 32, 33, 34, 35, 36, 37, 38, 39, 40, 41, 42, 43, 44] [39, 0, 1, 2, 3, 4, 5, 6, 7, 8, 9, 10, 11, 12, 13, 14, 15, 16, 40, 17, 18, 43, 44, 19, 20, 41, 42, 21, 22, 23, 24, 25, 26, 27, 28, 29, 30, 31, 32, 33, 34, 35, 36, 37, 38] rfl rfl rfl (by decide) rfl rfl (va_runV (As := [.int (xs (nI i + (1 : Int32)).toNatClampNeg), .int (xs (nI i + (2 : Int32)).toNatClampNeg), .int (xs (nI i + (3 : Int32)).toNatClampNeg), .int (xs (nI i + (4 : Int32)).toNatClampNeg), .int (xs (nI i + (5 : Int32)).toNatClampNeg)]) (rest := []) S (c_X6_copy_S_T l D cI cZ cJ cO _ qx (a 0) (a 3) (a 5) (a 9) (a 13) (a 14) (a 17) (a 24) (a 25) (a 20) (a 21) 25000 (xs (nI i + (1 : Int32)).toNatClampNeg) (xs (nI i + (2 : Int32)).toNatClampNeg) (xs (nI i + (3 : Int32)).toNatClampNeg) (xs (nI i + (4 : Int32)).toNatClampNeg) (xs (nI i + (5 : Int32)).toNatClampNeg) mv lf (gSh a) (sl 3) (sf 3) (ss 3) (si 3) (sl 1) (sf 1) (ss 1) (si 1) r lf' it' hs0 hs1  e1) (cwV 5 hts2 gL_law_X6_copy rfl rfl rfl (by decide +kernel) ⟨Nat.le_of_ble_eq_true rfl, Nat.le_of_ble_eq_true rfl⟩) (pre_V hK hN hw [0, 18, 25, 26, 21, 22] rfl rfl (C := RX6) (T := TX6) (N := 9) (ci := 6) (q0 := 0) rfl rfl) rfl rfl hl.1 rfl (lv_room (Nat.le_of_ble_eq_true rfl)) dL_law_780 ⟨Nat.le_of_ble_eq_true rfl, Nat.le_of_ble_eq_true rfl⟩) (fun H locs hw => ?_)
    refine lv_aload_n hx hb dL_law_783 rfl (lv_at hl 2 rfl) ?_
    refine lv_aload_n hx hb dL_law_784 rfl (lv_at hl 0 rfl) ?_
    refine lv_iload_n hx hb dL_law_785 rfl (lv_at hl 3 rfl) ?_
    refine lv_iconst (v := (1 : Int32)) hx hb dL_law_786 (by decide) ?_
    refine lv_iadd hx hb dL_law_787 ?_
    refine va_sld hx hb hX hbl hbA hw.2.2 h_1 dL_law_788 ?_
    refine lv_aload_n hx hb dL_law_789 rfl (lv_at hl 0 rfl) ?_
    refine lv_iload_n hx hb dL_law_790 rfl (lv_at hl 3 rfl) ?_
    refine lv_iconst (v := (2 : Int32)) hx hb dL_law_791 (by decide) ?_
    refine lv_iadd hx hb dL_law_792 ?_
    refine va_sld hx hb hX hbl hbA hw.2.2 h_2 dL_law_793 ?_
    refine lv_aload_n hx hb dL_law_794 rfl (lv_at hl 0 rfl) ?_
    refine lv_iload_n hx hb dL_law_795 rfl (lv_at hl 3 rfl) ?_
    refine lv_iconst (v := (3 : Int32)) hx hb dL_law_796 (by decide) ?_
    refine lv_iadd hx hb dL_law_797 ?_
    refine va_sld hx hb hX hbl hbA hw.2.2 h_3 dL_law_798 ?_
    refine lv_aload_n hx hb dL_law_799 rfl (lv_at hl 0 rfl) ?_
    refine lv_iload_n hx hb dL_law_800 rfl (lv_at hl 3 rfl) ?_
    refine lv_iconst (v := (4 : Int32)) hx hb dL_law_801 (by decide) ?_
    refine lv_iadd hx hb dL_law_802 ?_
    refine va_sld hx hb hX hbl hbA hw.2.2 h_4 dL_law_803 ?_
    refine lv_aload_n hx hb dL_law_804 rfl (lv_at hl 0 rfl) ?_
    refine lv_iload_n hx hb dL_law_805 rfl (lv_at hl 3 rfl) ?_
    refine lv_iconst (v := (5 : Int32)) hx hb dL_law_806 (by decide) ?_
    refine lv_iadd hx hb dL_law_807 ?_
    refine va_sld hx hb hX hbl hbA hw.2.2 h_5 dL_law_808 ?_
    refine cl_i (wr := pick (LW cI cZ cJ cO qx qm a d mv lf' cb cm ps pl ts tb tl tr tS es eb el er eS rn rb rm rc un ub um uc sn sl sf ss (va_up si 1 it') mv lf my ts rn mb mn ml mp mL mR oL oR oM mr mw mS hT hF hS hI hM) [0, 1, 2, 3, 4, 5, 6, 7, 8, 9, 10, 11, 12, 13, 14, 15, 16, 17, 18, 19, 20, 21, 22, 23, 24, 25, 26, 28, 29, 30, 31, 32, 33, 34, 35, 36, 37, 38, 39]) (ws' := (LW cI cZ cJ cO qx qm a d mv lf' cb cm ps pl ts tb tl tr tS es eb el er eS rn rb rm rc un ub um uc sn sl sf ss (va_up si 1 it') mv lf' my ts rn mb mn ml mp mL mR oL oR oM mr mw mS hT hF hS hI' hM')) hA hw [27, 40, 41, 42, 43, 44] [0, 1, 2, 3, 4, 5, 6, 7, 8, 9, 10, 11, 12, 13, 14, 15, 16, 17, 18, 19, 20, 21, 22, 23, 24, 25, 26, 28, 29, 30, 31, 32, 33, 34, 35, 36, 37, 38, 39] [0, 1, 2, 3, 4, 5, 6, 7, 8, 9, 10, 11, 12, 13, 14, 15, 16, 17, 18, 19, 20, 21, 22, 23, 24, 25, 26, 39, 27, 28, 29, 30, 31, 32, 33, 34, 35, 36, 37, 38, 40, 41, 42, 43, 44] rfl rfl rfl (by decide) rfl rfl (va_runV (As := [.int (xs (nI i + (1 : Int32)).toNatClampNeg), .int (xs (nI i + (2 : Int32)).toNatClampNeg), .int (xs (nI i + (3 : Int32)).toNatClampNeg), .int (xs (nI i + (4 : Int32)).toNatClampNeg), .int (xs (nI i + (5 : Int32)).toNatClampNeg)]) (rest := [.int r]) S (c_X7_copy l D cI cZ cJ cO _ qm (d 0) (d 1) (d 2) (d 3) (d 4) (d 5) (d 6) (d 7) (d 8) (d 9) (d 10) (d 11) (d 12) (d 13) (d 14) (d 15) (d 16) 25000 (xs (nI i + (1 : Int32)).toNatClampNeg) (xs (nI i + (2 : Int32)).toNatClampNeg) (xs (nI i + (3 : Int32)).toNatClampNeg) (xs (nI i + (4 : Int32)).toNatClampNeg) (xs (nI i + (5 : Int32)).toNatClampNeg) mv my ts rn lf hT hF hS hI hM r lf' hI' hM'  e2) (cwV 5 hts2 gL_law_X7_copy rfl rfl rfl (by decide +kernel) ⟨Nat.le_of_ble_eq_true rfl, Nat.le_of_ble_eq_true rfl⟩) (pre_V hK hN hw [27, 40, 41, 42, 43, 44] rfl rfl (C := RX7) (T := TX7) (N := 22) (ci := 7) (q0 := 0) rfl rfl) rfl rfl hl.1 rfl (lv_room (Nat.le_of_ble_eq_true rfl)) dL_law_809 ⟨Nat.le_of_ble_eq_true rfl, Nat.le_of_ble_eq_true rfl⟩) (fun H locs hw => ?_)
    refine lv_icmp_eq (tgt := 920) hx hb dL_law_812 (by decide) (fun _ => ?_) (fun c9 => absurd rfl c9)
    exact hG mv lf' cb cm ps pl ts tb tl tr tS es eb el er eS rn rb rm rc un ub um uc sn sl sf ss (va_up si 1 it') my mb mn ml mp mL mR oL oR oM mr mw mS hT hF hS hI' hM' _ _ _ ⟨hB, hS_, hR, nH⟩ hw hl
  · have hs0 : shOf (xs (nI i + (1 : Int32)).toNatClampNeg) (gSh a) = some (a 24) := by rw [eA]; exact sh_3 a
    have hs1 : shOf (xs (nI i + (3 : Int32)).toNatClampNeg) (gSh a) = some (a 22) := by rw [e3]; exact sh_2 a
    obtain ⟨r, lf', it', hI', hM', e1, e2, nH⟩ := pu_copyE 25000 (Nat.le_refl _) (i := 3) (j := 2) (by decide) (by decide) eA e3 (xs (nI i + (2 : Int32)).toNatClampNeg) (xs (nI i + (4 : Int32)).toNatClampNeg) (xs (nI i + (5 : Int32)).toNatClampNeg) lf (gSh a) sl sf ss si hT hF hS hI hM hH
    refine lv_aload_n hx hb dL_law_754 rfl (lv_at hl 1 rfl) ?_
    refine lv_aload_n hx hb dL_law_755 rfl (lv_at hl 0 rfl) ?_
    refine lv_iload_n hx hb dL_law_756 rfl (lv_at hl 3 rfl) ?_
    refine lv_iconst (v := (1 : Int32)) hx hb dL_law_757 (by decide) ?_
    refine lv_iadd hx hb dL_law_758 ?_
    refine va_sld hx hb hX hbl hbA hw.2.2 h_1 dL_law_759 ?_
    refine lv_aload_n hx hb dL_law_760 rfl (lv_at hl 0 rfl) ?_
    refine lv_iload_n hx hb dL_law_761 rfl (lv_at hl 3 rfl) ?_
    refine lv_iconst (v := (2 : Int32)) hx hb dL_law_762 (by decide) ?_
    refine lv_iadd hx hb dL_law_763 ?_
    refine va_sld hx hb hX hbl hbA hw.2.2 h_2 dL_law_764 ?_
    refine lv_aload_n hx hb dL_law_765 rfl (lv_at hl 0 rfl) ?_
    refine lv_iload_n hx hb dL_law_766 rfl (lv_at hl 3 rfl) ?_
    refine lv_iconst (v := (3 : Int32)) hx hb dL_law_767 (by decide) ?_
    refine lv_iadd hx hb dL_law_768 ?_
    refine va_sld hx hb hX hbl hbA hw.2.2 h_3 dL_law_769 ?_
    refine lv_aload_n hx hb dL_law_770 rfl (lv_at hl 0 rfl) ?_
    refine lv_iload_n hx hb dL_law_771 rfl (lv_at hl 3 rfl) ?_
    refine lv_iconst (v := (4 : Int32)) hx hb dL_law_772 (by decide) ?_
    refine lv_iadd hx hb dL_law_773 ?_
    refine va_sld hx hb hX hbl hbA hw.2.2 h_4 dL_law_774 ?_
    refine lv_aload_n hx hb dL_law_775 rfl (lv_at hl 0 rfl) ?_
    refine lv_iload_n hx hb dL_law_776 rfl (lv_at hl 3 rfl) ?_
    refine lv_iconst (v := (5 : Int32)) hx hb dL_law_777 (by decide) ?_
    refine lv_iadd hx hb dL_law_778 ?_
    refine va_sld hx hb hX hbl hbA hw.2.2 h_5 dL_law_779 ?_
    refine cl_i (wr := pick (LW cI cZ cJ cO qx qm a d mv lf cb cm ps pl ts tb tl tr tS es eb el er eS rn rb rm rc un ub um uc sn sl sf ss si mv lf my ts rn mb mn ml mp mL mR oL oR oM mr mw mS hT hF hS hI hM) [1, 2, 3, 4, 5, 6, 7, 8, 9, 10, 11, 12, 13, 14, 15, 16, 17, 19, 20, 21, 22, 27, 28, 29, 30, 31, 32, 33, 34, 35, 36, 37, 38, 39, 40, 41, 42, 43, 44]) (ws' := (LW cI cZ cJ cO qx qm a d mv lf' cb cm ps pl ts tb tl tr tS es eb el er eS rn rb rm rc un ub um uc sn sl sf ss (va_up si 2 it') mv lf my ts rn mb mn ml mp mL mR oL oR oM mr mw mS hT hF hS hI hM)) hA hw [0, 18, 25, 26, 23, 24] [1, 2, 3, 4, 5, 6, 7, 8, 9, 10, 11, 12, 13, 14, 15, 16, 17, 19, 20, 21, 22, 27, 28, 29, 30, 31, 32, 33, 34, 35, 36, 37, 38, 39, 40, 41, 42, 43, 44] [39, 0, 1, 2, 3, 4, 5, 6, 7, 8, 9, 10, 11, 12, 13, 14, 15, 16, 40, 17, 18, 19, 20, 43, 44, 41, 42, 21, 22, 23, 24, 25, 26, 27, 28, 29, 30, 31, 32, 33, 34, 35, 36, 37, 38] rfl rfl rfl (by decide) rfl rfl (va_runV (As := [.int (xs (nI i + (1 : Int32)).toNatClampNeg), .int (xs (nI i + (2 : Int32)).toNatClampNeg), .int (xs (nI i + (3 : Int32)).toNatClampNeg), .int (xs (nI i + (4 : Int32)).toNatClampNeg), .int (xs (nI i + (5 : Int32)).toNatClampNeg)]) (rest := []) S (c_X6_copy_S_T l D cI cZ cJ cO _ qx (a 0) (a 3) (a 5) (a 9) (a 13) (a 14) (a 17) (a 24) (a 25) (a 22) (a 23) 25000 (xs (nI i + (1 : Int32)).toNatClampNeg) (xs (nI i + (2 : Int32)).toNatClampNeg) (xs (nI i + (3 : Int32)).toNatClampNeg) (xs (nI i + (4 : Int32)).toNatClampNeg) (xs (nI i + (5 : Int32)).toNatClampNeg) mv lf (gSh a) (sl 3) (sf 3) (ss 3) (si 3) (sl 2) (sf 2) (ss 2) (si 2) r lf' it' hs0 hs1  e1) (cwV 5 hts2 gL_law_X6_copy rfl rfl rfl (by decide +kernel) ⟨Nat.le_of_ble_eq_true rfl, Nat.le_of_ble_eq_true rfl⟩) (pre_V hK hN hw [0, 18, 25, 26, 23, 24] rfl rfl (C := RX6) (T := TX6) (N := 9) (ci := 6) (q0 := 0) rfl rfl) rfl rfl hl.1 rfl (lv_room (Nat.le_of_ble_eq_true rfl)) dL_law_780 ⟨Nat.le_of_ble_eq_true rfl, Nat.le_of_ble_eq_true rfl⟩) (fun H locs hw => ?_)
    refine lv_aload_n hx hb dL_law_783 rfl (lv_at hl 2 rfl) ?_
    refine lv_aload_n hx hb dL_law_784 rfl (lv_at hl 0 rfl) ?_
    refine lv_iload_n hx hb dL_law_785 rfl (lv_at hl 3 rfl) ?_
    refine lv_iconst (v := (1 : Int32)) hx hb dL_law_786 (by decide) ?_
    refine lv_iadd hx hb dL_law_787 ?_
    refine va_sld hx hb hX hbl hbA hw.2.2 h_1 dL_law_788 ?_
    refine lv_aload_n hx hb dL_law_789 rfl (lv_at hl 0 rfl) ?_
    refine lv_iload_n hx hb dL_law_790 rfl (lv_at hl 3 rfl) ?_
    refine lv_iconst (v := (2 : Int32)) hx hb dL_law_791 (by decide) ?_
    refine lv_iadd hx hb dL_law_792 ?_
    refine va_sld hx hb hX hbl hbA hw.2.2 h_2 dL_law_793 ?_
    refine lv_aload_n hx hb dL_law_794 rfl (lv_at hl 0 rfl) ?_
    refine lv_iload_n hx hb dL_law_795 rfl (lv_at hl 3 rfl) ?_
    refine lv_iconst (v := (3 : Int32)) hx hb dL_law_796 (by decide) ?_
    refine lv_iadd hx hb dL_law_797 ?_
    refine va_sld hx hb hX hbl hbA hw.2.2 h_3 dL_law_798 ?_
    refine lv_aload_n hx hb dL_law_799 rfl (lv_at hl 0 rfl) ?_
    refine lv_iload_n hx hb dL_law_800 rfl (lv_at hl 3 rfl) ?_
    refine lv_iconst (v := (4 : Int32)) hx hb dL_law_801 (by decide) ?_
    refine lv_iadd hx hb dL_law_802 ?_
    refine va_sld hx hb hX hbl hbA hw.2.2 h_4 dL_law_803 ?_
    refine lv_aload_n hx hb dL_law_804 rfl (lv_at hl 0 rfl) ?_
    refine lv_iload_n hx hb dL_law_805 rfl (lv_at hl 3 rfl) ?_
    refine lv_iconst (v := (5 : Int32)) hx hb dL_law_806 (by decide) ?_
    refine lv_iadd hx hb dL_law_807 ?_
    refine va_sld hx hb hX hbl hbA hw.2.2 h_5 dL_law_808 ?_
    refine cl_i (wr := pick (LW cI cZ cJ cO qx qm a d mv lf' cb cm ps pl ts tb tl tr tS es eb el er eS rn rb rm rc un ub um uc sn sl sf ss (va_up si 2 it') mv lf my ts rn mb mn ml mp mL mR oL oR oM mr mw mS hT hF hS hI hM) [0, 1, 2, 3, 4, 5, 6, 7, 8, 9, 10, 11, 12, 13, 14, 15, 16, 17, 18, 19, 20, 21, 22, 23, 24, 25, 26, 28, 29, 30, 31, 32, 33, 34, 35, 36, 37, 38, 39]) (ws' := (LW cI cZ cJ cO qx qm a d mv lf' cb cm ps pl ts tb tl tr tS es eb el er eS rn rb rm rc un ub um uc sn sl sf ss (va_up si 2 it') mv lf' my ts rn mb mn ml mp mL mR oL oR oM mr mw mS hT hF hS hI' hM')) hA hw [27, 40, 41, 42, 43, 44] [0, 1, 2, 3, 4, 5, 6, 7, 8, 9, 10, 11, 12, 13, 14, 15, 16, 17, 18, 19, 20, 21, 22, 23, 24, 25, 26, 28, 29, 30, 31, 32, 33, 34, 35, 36, 37, 38, 39] [0, 1, 2, 3, 4, 5, 6, 7, 8, 9, 10, 11, 12, 13, 14, 15, 16, 17, 18, 19, 20, 21, 22, 23, 24, 25, 26, 39, 27, 28, 29, 30, 31, 32, 33, 34, 35, 36, 37, 38, 40, 41, 42, 43, 44] rfl rfl rfl (by decide) rfl rfl (va_runV (As := [.int (xs (nI i + (1 : Int32)).toNatClampNeg), .int (xs (nI i + (2 : Int32)).toNatClampNeg), .int (xs (nI i + (3 : Int32)).toNatClampNeg), .int (xs (nI i + (4 : Int32)).toNatClampNeg), .int (xs (nI i + (5 : Int32)).toNatClampNeg)]) (rest := [.int r]) S (c_X7_copy l D cI cZ cJ cO _ qm (d 0) (d 1) (d 2) (d 3) (d 4) (d 5) (d 6) (d 7) (d 8) (d 9) (d 10) (d 11) (d 12) (d 13) (d 14) (d 15) (d 16) 25000 (xs (nI i + (1 : Int32)).toNatClampNeg) (xs (nI i + (2 : Int32)).toNatClampNeg) (xs (nI i + (3 : Int32)).toNatClampNeg) (xs (nI i + (4 : Int32)).toNatClampNeg) (xs (nI i + (5 : Int32)).toNatClampNeg) mv my ts rn lf hT hF hS hI hM r lf' hI' hM'  e2) (cwV 5 hts2 gL_law_X7_copy rfl rfl rfl (by decide +kernel) ⟨Nat.le_of_ble_eq_true rfl, Nat.le_of_ble_eq_true rfl⟩) (pre_V hK hN hw [27, 40, 41, 42, 43, 44] rfl rfl (C := RX7) (T := TX7) (N := 22) (ci := 7) (q0 := 0) rfl rfl) rfl rfl hl.1 rfl (lv_room (Nat.le_of_ble_eq_true rfl)) dL_law_809 ⟨Nat.le_of_ble_eq_true rfl, Nat.le_of_ble_eq_true rfl⟩) (fun H locs hw => ?_)
    refine lv_icmp_eq (tgt := 920) hx hb dL_law_812 (by decide) (fun _ => ?_) (fun c9 => absurd rfl c9)
    exact hG mv lf' cb cm ps pl ts tb tl tr tS es eb el er eS rn rb rm rc un ub um uc sn sl sf ss (va_up si 2 it') my mb mn ml mp mL mR oL oR oM mr mw mS hT hF hS hI' hM' _ _ _ ⟨hB, hS_, hR, nH⟩ hw hl
  · have hs0 : shOf (xs (nI i + (1 : Int32)).toNatClampNeg) (gSh a) = some (a 24) := by rw [eA]; exact sh_3 a
    have hs1 : shOf (xs (nI i + (3 : Int32)).toNatClampNeg) (gSh a) = some (a 24) := by rw [e3]; exact sh_3 a
    obtain ⟨r, lf', it', hI', hM', e1, e2, nH⟩ := pu_copyE 25000 (Nat.le_refl _) (i := 3) (j := 3) (by decide) (by decide) eA e3 (xs (nI i + (2 : Int32)).toNatClampNeg) (xs (nI i + (4 : Int32)).toNatClampNeg) (xs (nI i + (5 : Int32)).toNatClampNeg) lf (gSh a) sl sf ss si hT hF hS hI hM hH
    rw [← copy_ss] at e1
    refine lv_aload_n hx hb dL_law_754 rfl (lv_at hl 1 rfl) ?_
    refine lv_aload_n hx hb dL_law_755 rfl (lv_at hl 0 rfl) ?_
    refine lv_iload_n hx hb dL_law_756 rfl (lv_at hl 3 rfl) ?_
    refine lv_iconst (v := (1 : Int32)) hx hb dL_law_757 (by decide) ?_
    refine lv_iadd hx hb dL_law_758 ?_
    refine va_sld hx hb hX hbl hbA hw.2.2 h_1 dL_law_759 ?_
    refine lv_aload_n hx hb dL_law_760 rfl (lv_at hl 0 rfl) ?_
    refine lv_iload_n hx hb dL_law_761 rfl (lv_at hl 3 rfl) ?_
    refine lv_iconst (v := (2 : Int32)) hx hb dL_law_762 (by decide) ?_
    refine lv_iadd hx hb dL_law_763 ?_
    refine va_sld hx hb hX hbl hbA hw.2.2 h_2 dL_law_764 ?_
    refine lv_aload_n hx hb dL_law_765 rfl (lv_at hl 0 rfl) ?_
    refine lv_iload_n hx hb dL_law_766 rfl (lv_at hl 3 rfl) ?_
    refine lv_iconst (v := (3 : Int32)) hx hb dL_law_767 (by decide) ?_
    refine lv_iadd hx hb dL_law_768 ?_
    refine va_sld hx hb hX hbl hbA hw.2.2 h_3 dL_law_769 ?_
    refine lv_aload_n hx hb dL_law_770 rfl (lv_at hl 0 rfl) ?_
    refine lv_iload_n hx hb dL_law_771 rfl (lv_at hl 3 rfl) ?_
    refine lv_iconst (v := (4 : Int32)) hx hb dL_law_772 (by decide) ?_
    refine lv_iadd hx hb dL_law_773 ?_
    refine va_sld hx hb hX hbl hbA hw.2.2 h_4 dL_law_774 ?_
    refine lv_aload_n hx hb dL_law_775 rfl (lv_at hl 0 rfl) ?_
    refine lv_iload_n hx hb dL_law_776 rfl (lv_at hl 3 rfl) ?_
    refine lv_iconst (v := (5 : Int32)) hx hb dL_law_777 (by decide) ?_
    refine lv_iadd hx hb dL_law_778 ?_
    refine va_sld hx hb hX hbl hbA hw.2.2 h_5 dL_law_779 ?_
    refine cl_i (wr := pick (LW cI cZ cJ cO qx qm a d mv lf cb cm ps pl ts tb tl tr tS es eb el er eS rn rb rm rc un ub um uc sn sl sf ss si mv lf my ts rn mb mn ml mp mL mR oL oR oM mr mw mS hT hF hS hI hM) [1, 2, 3, 4, 5, 6, 7, 8, 9, 10, 11, 12, 13, 14, 15, 16, 17, 19, 20, 21, 22, 23, 24, 27, 28, 29, 30, 31, 32, 33, 34, 35, 36, 37, 38, 39, 40, 41, 42, 43, 44]) (ws' := (LW cI cZ cJ cO qx qm a d mv lf' cb cm ps pl ts tb tl tr tS es eb el er eS rn rb rm rc un ub um uc sn sl sf ss (va_up si 3 it') mv lf my ts rn mb mn ml mp mL mR oL oR oM mr mw mS hT hF hS hI hM)) hA hw [0, 18, 25, 26] [1, 2, 3, 4, 5, 6, 7, 8, 9, 10, 11, 12, 13, 14, 15, 16, 17, 19, 20, 21, 22, 23, 24, 27, 28, 29, 30, 31, 32, 33, 34, 35, 36, 37, 38, 39, 40, 41, 42, 43, 44] [41, 0, 1, 2, 3, 4, 5, 6, 7, 8, 9, 10, 11, 12, 13, 14, 15, 16, 42, 17, 18, 19, 20, 21, 22, 43, 44, 23, 24, 25, 26, 27, 28, 29, 30, 31, 32, 33, 34, 35, 36, 37, 38, 39, 40] rfl rfl rfl (by decide) rfl rfl (va_runV (As := [.int (xs (nI i + (1 : Int32)).toNatClampNeg), .int (xs (nI i + (2 : Int32)).toNatClampNeg), .int (xs (nI i + (3 : Int32)).toNatClampNeg), .int (xs (nI i + (4 : Int32)).toNatClampNeg), .int (xs (nI i + (5 : Int32)).toNatClampNeg)]) (rest := []) S (c_X6_copy_S_S l D cI cZ cJ cO _ qx (a 0) (a 3) (a 5) (a 9) (a 13) (a 14) (a 17) (a 24) (a 25) 25000 (xs (nI i + (1 : Int32)).toNatClampNeg) (xs (nI i + (2 : Int32)).toNatClampNeg) (xs (nI i + (3 : Int32)).toNatClampNeg) (xs (nI i + (4 : Int32)).toNatClampNeg) (xs (nI i + (5 : Int32)).toNatClampNeg) mv lf (gSh a) (sl 3) (sf 3) (ss 3) (si 3) r lf' it' hs0 hs1  e1) (cwV 5 hts2 gL_law_X6_copy rfl rfl rfl (by decide +kernel) ⟨Nat.le_of_ble_eq_true rfl, Nat.le_of_ble_eq_true rfl⟩) (pre_V hK hN hw [0, 18, 25, 26] rfl rfl (C := RX6) (T := TX6) (N := 9) (ci := 6) (q0 := 0) rfl rfl) rfl rfl hl.1 rfl (lv_room (Nat.le_of_ble_eq_true rfl)) dL_law_780 ⟨Nat.le_of_ble_eq_true rfl, Nat.le_of_ble_eq_true rfl⟩) (fun H locs hw => ?_)
    refine lv_aload_n hx hb dL_law_783 rfl (lv_at hl 2 rfl) ?_
    refine lv_aload_n hx hb dL_law_784 rfl (lv_at hl 0 rfl) ?_
    refine lv_iload_n hx hb dL_law_785 rfl (lv_at hl 3 rfl) ?_
    refine lv_iconst (v := (1 : Int32)) hx hb dL_law_786 (by decide) ?_
    refine lv_iadd hx hb dL_law_787 ?_
    refine va_sld hx hb hX hbl hbA hw.2.2 h_1 dL_law_788 ?_
    refine lv_aload_n hx hb dL_law_789 rfl (lv_at hl 0 rfl) ?_
    refine lv_iload_n hx hb dL_law_790 rfl (lv_at hl 3 rfl) ?_
    refine lv_iconst (v := (2 : Int32)) hx hb dL_law_791 (by decide) ?_
    refine lv_iadd hx hb dL_law_792 ?_
    refine va_sld hx hb hX hbl hbA hw.2.2 h_2 dL_law_793 ?_
    refine lv_aload_n hx hb dL_law_794 rfl (lv_at hl 0 rfl) ?_
    refine lv_iload_n hx hb dL_law_795 rfl (lv_at hl 3 rfl) ?_
    refine lv_iconst (v := (3 : Int32)) hx hb dL_law_796 (by decide) ?_
    refine lv_iadd hx hb dL_law_797 ?_
    refine va_sld hx hb hX hbl hbA hw.2.2 h_3 dL_law_798 ?_
    refine lv_aload_n hx hb dL_law_799 rfl (lv_at hl 0 rfl) ?_
    refine lv_iload_n hx hb dL_law_800 rfl (lv_at hl 3 rfl) ?_
    refine lv_iconst (v := (4 : Int32)) hx hb dL_law_801 (by decide) ?_
    refine lv_iadd hx hb dL_law_802 ?_
    refine va_sld hx hb hX hbl hbA hw.2.2 h_4 dL_law_803 ?_
    refine lv_aload_n hx hb dL_law_804 rfl (lv_at hl 0 rfl) ?_
    refine lv_iload_n hx hb dL_law_805 rfl (lv_at hl 3 rfl) ?_
    refine lv_iconst (v := (5 : Int32)) hx hb dL_law_806 (by decide) ?_
    refine lv_iadd hx hb dL_law_807 ?_
    refine va_sld hx hb hX hbl hbA hw.2.2 h_5 dL_law_808 ?_
    refine cl_i (wr := pick (LW cI cZ cJ cO qx qm a d mv lf' cb cm ps pl ts tb tl tr tS es eb el er eS rn rb rm rc un ub um uc sn sl sf ss (va_up si 3 it') mv lf my ts rn mb mn ml mp mL mR oL oR oM mr mw mS hT hF hS hI hM) [0, 1, 2, 3, 4, 5, 6, 7, 8, 9, 10, 11, 12, 13, 14, 15, 16, 17, 18, 19, 20, 21, 22, 23, 24, 25, 26, 28, 29, 30, 31, 32, 33, 34, 35, 36, 37, 38, 39]) (ws' := (LW cI cZ cJ cO qx qm a d mv lf' cb cm ps pl ts tb tl tr tS es eb el er eS rn rb rm rc un ub um uc sn sl sf ss (va_up si 3 it') mv lf' my ts rn mb mn ml mp mL mR oL oR oM mr mw mS hT hF hS hI' hM')) hA hw [27, 40, 41, 42, 43, 44] [0, 1, 2, 3, 4, 5, 6, 7, 8, 9, 10, 11, 12, 13, 14, 15, 16, 17, 18, 19, 20, 21, 22, 23, 24, 25, 26, 28, 29, 30, 31, 32, 33, 34, 35, 36, 37, 38, 39] [0, 1, 2, 3, 4, 5, 6, 7, 8, 9, 10, 11, 12, 13, 14, 15, 16, 17, 18, 19, 20, 21, 22, 23, 24, 25, 26, 39, 27, 28, 29, 30, 31, 32, 33, 34, 35, 36, 37, 38, 40, 41, 42, 43, 44] rfl rfl rfl (by decide) rfl rfl (va_runV (As := [.int (xs (nI i + (1 : Int32)).toNatClampNeg), .int (xs (nI i + (2 : Int32)).toNatClampNeg), .int (xs (nI i + (3 : Int32)).toNatClampNeg), .int (xs (nI i + (4 : Int32)).toNatClampNeg), .int (xs (nI i + (5 : Int32)).toNatClampNeg)]) (rest := [.int r]) S (c_X7_copy l D cI cZ cJ cO _ qm (d 0) (d 1) (d 2) (d 3) (d 4) (d 5) (d 6) (d 7) (d 8) (d 9) (d 10) (d 11) (d 12) (d 13) (d 14) (d 15) (d 16) 25000 (xs (nI i + (1 : Int32)).toNatClampNeg) (xs (nI i + (2 : Int32)).toNatClampNeg) (xs (nI i + (3 : Int32)).toNatClampNeg) (xs (nI i + (4 : Int32)).toNatClampNeg) (xs (nI i + (5 : Int32)).toNatClampNeg) mv my ts rn lf hT hF hS hI hM r lf' hI' hM'  e2) (cwV 5 hts2 gL_law_X7_copy rfl rfl rfl (by decide +kernel) ⟨Nat.le_of_ble_eq_true rfl, Nat.le_of_ble_eq_true rfl⟩) (pre_V hK hN hw [27, 40, 41, 42, 43, 44] rfl rfl (C := RX7) (T := TX7) (N := 22) (ci := 7) (q0 := 0) rfl rfl) rfl rfl hl.1 rfl (lv_room (Nat.le_of_ble_eq_true rfl)) dL_law_809 ⟨Nat.le_of_ble_eq_true rfl, Nat.le_of_ble_eq_true rfl⟩) (fun H locs hw => ?_)
    refine lv_icmp_eq (tgt := 920) hx hb dL_law_812 (by decide) (fun _ => ?_) (fun c9 => absurd rfl c9)
    exact hG mv lf' cb cm ps pl ts tb tl tr tS es eb el er eS rn rb rm rc un ub um uc sn sl sf ss (va_up si 3 it') my mb mn ml mp mL mR oL oR oM mr mw mS hT hF hS hI' hM' _ _ _ ⟨hB, hS_, hR, nH⟩ hw hl
