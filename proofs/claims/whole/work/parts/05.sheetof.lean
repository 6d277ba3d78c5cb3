theorem pr9 {A0 A1 A2 A3 A4 A5 A6 A7 A8 : Type} {a0 b0 : A0} {a1 b1 : A1} {a2 b2 : A2} {a3 b3 : A3} {a4 b4 : A4} {a5 b5 : A5} {a6 b6 : A6} {a7 b7 : A7} {a8 b8 : A8} (h : (a0, a1, a2, a3, a4, a5, a6, a7, a8) = (b0, b1, b2, b3, b4, b5, b6, b7, b8)) : a0 = b0 ∧ a1 = b1 ∧ a2 = b2 ∧ a3 = b3 ∧ a4 = b4 ∧ a5 = b5 ∧ a6 = b6 ∧ a7 = b7 ∧ a8 = b8 := by
  injection h with h0 t0
  injection t0 with h1 t1
  injection t1 with h2 t2
  injection t2 with h3 t3
  injection t3 with h4 t4
  injection t4 with h5 t5
  injection t5 with h6 t6
  injection t6 with h7 t7
  exact ⟨h0, h1, h2, h3, h4, h5, h6, h7, t7⟩
theorem rt_q {p : Program} {l : Launch} {e : Env} {R : Room} {s : State} {m : MethodId} {args : Array Value} {below : List Frame} {meth : Method} {c : Code} {H : Heap} {locs : List Loc} {cells slots : Nat} {cc : ByteArray} {nL : Nat} {Ts : List Cond} {own : String} {D : va_G} {A : Nat → Prop} {ws : va_W} {pc : Nat} {ls : Array Slot} {r : Option Nat} {C : String} (S : CallFix p m c cc nL s args Ts own) (hr : meth.sig.returnType = some (.object C)) (hlk : meth.locks = false) (hw : Wd D A s.heap ws H locs) (hdg : decode cc pc = .ok (.areturn, 1)) : W p l e R s m args below meth c H locs cells slots (MQ below (QcQ D ws A r) args s cells slots A) (F0 m pc ls [va_rf r]) :=
  W.aret (v := va_rf r) S.1 S.2.1 hr (Or.inl ⟨_, rfl⟩) (va_rf_or r) (fun _ ht _ => ⟨⟨r, (), rfl, rfl, by rw [ht]; exact hw.1, hw.2.1⟩, hw.2.2.F ht⟩) hw.2.2.2.2 hdg hlk
set_option maxHeartbeats 4000000 in
set_option maxRecDepth 100000 in
theorem c_X6_sheetOf (l : Launch) (D : va_G) (cI cZ cJ cO : ClassId) (sz : Nat) (q1 q2 q3 q4 q5 q6 q7 : Nat) (mv lf : Int32) (q_t : Nat) (g : Nat → Option Nat) (p1 : Int32) : Met l yX6_sheetOf wsX6_sheetOf ({ frames := 0, cells := 0, slots := 0, locals := 0 }) (PreC D (TY cI cZ cJ cO) [.ref q_t, .int p1] [(q_t, .inr (6, [.ref q1, .ref q2, .ref q3, .ref q4, .ref q5, .ref q6, .ref q7, .int mv, .int lf])), (q7, .inl (cO, 4, .inr (.inr (.inr (.inr g)))))] sz) (QcQ D [(q_t, .inr (6, [.ref q1, .ref q2, .ref q3, .ref q4, .ref q5, .ref q6, .ref q7, .int mv, .int lf])), (q7, .inl (cO, 4, .inr (.inr (.inr (.inr g)))))] (va_A [(q_t, .inr (6, [.ref q1, .ref q2, .ref q3, .ref q4, .ref q5, .ref q6, .ref q7, .int mv, .int lf])), (q7, .inl (cO, 4, .inr (.inr (.inr (.inr g)))))] sz) (shOf p1 g)) 0 0 (va_A [(q_t, .inr (6, [.ref q1, .ref q2, .ref q3, .ref q4, .ref q5, .ref q6, .ref q7, .int mv, .int lf])), (q7, .inl (cO, 4, .inr (.inr (.inr (.inr g)))))] sz) := by
  refine ctr (cc := cX6_sheetOf) (maxL := 2) (ret := (some (.object "BallBoxes$Sheet"))) (by decide) rfl (Nat.le_of_ble_eq_true rfl) ?_
  intro p e s m below meth c S hr hlk hnm hK hN hsz hA hw ls hl
  generalize va_A [(q_t, .inr (6, [.ref q1, .ref q2, .ref q3, .ref q4, .ref q5, .ref q6, .ref q7, .int mv, .int lf])), (q7, .inl (cO, 4, .inr (.inr (.inr (.inr g)))))] sz = A at hA hw ⊢
  have S : CallFix p m c cX6_sheetOf 2 s ([.ref q_t, .int p1] : List Value).toArray wsX6_sheetOf RX6 := S
  have hx := S.1
  have hb := S.2.1
  have hts := S.2.2.2.2
  have hl : lv_has ls 2 [(0, .ref q_t), (1, .int p1)] := hl
  have hinX6 : ∀ w ∈ u_ws RX6 TX6 9, w ∈ wsX6_sheetOf := by decide +kernel
  have k49 : Cond.fieldLink RX6 49 "BallBoxes" "sheets" "[LBallBoxes$Sheet;" ∈ wsX6_sheetOf := by decide +kernel
  refine lv_iload_n hx hb dX6_sheetOf_0 rfl (lv_at hl 1 rfl) ?_
  refine lv_if_lt (tgt := 22) hx hb dX6_sheetOf_1 (by decide) (fun c1 => ?_) (fun c1 => ?_)
  · rw [show shOf p1 g = none by unfold shOf; rw [if_pos c1]]
    refine lv_null hx hb dX6_sheetOf_22 ?_
    exact rt_q (r := none) S hr hlk hw dX6_sheetOf_23
  · refine lv_iload_n hx hb dX6_sheetOf_4 rfl (lv_at hl 1 rfl) ?_
    refine lv_aload_n hx hb dX6_sheetOf_5 rfl (lv_at hl 0 rfl) ?_
    refine g_get (ci := 6) (C := RX6) (T := TX6) (N := 9) S hinX6 hK hw 0 6 k49 dX6_sheetOf_6 rfl rfl (by decide) rfl ?_
    refine va_alen hx hb hK hw.1 1 3 rfl rfl (v := (4 : Int32)) rfl dX6_sheetOf_9 ?_
    refine lv_icmp_ge (tgt := 22) hx hb dX6_sheetOf_10 (by decide) (fun c2 => ?_) (fun c2 => ?_)
    · rw [show shOf p1 g = none by unfold shOf; rw [if_neg c1, if_pos c2]]
      refine lv_null hx hb dX6_sheetOf_22 ?_
      exact rt_q (r := none) S hr hlk hw dX6_sheetOf_23
    · rw [show shOf p1 g = g p1.toNatClampNeg by unfold shOf; rw [if_neg c1, if_neg c2]]
      refine lv_aload_n hx hb dX6_sheetOf_13 rfl (lv_at hl 0 rfl) ?_
      refine g_get (ci := 6) (C := RX6) (T := TX6) (N := 9) S hinX6 hK hw 0 6 k49 dX6_sheetOf_14 rfl rfl (by decide) rfl ?_
      refine lv_iload_n hx hb dX6_sheetOf_17 rfl (lv_at hl 1 rfl) ?_
      have hv : vp_in p1 4 := by
        rcases pk_ix p1 (n := 4) (by decide) with h | h | ⟨j, hj, rfl⟩
        · exact absurd h c1
        · exact absurd h c2
        · exact vp_in_nI hj (by decide)
      refine va_aldq hx hb hK hw.1 1 3 rfl rfl hv dX6_sheetOf_18 ?_
      refine lv_goto (tgt := 23) hx hb dX6_sheetOf_19 (by decide) ?_
      exact rt_q S hr hlk hw dX6_sheetOf_23
