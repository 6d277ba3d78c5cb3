/-! helper rows: nest words, worlds, contracts, calls -/
def nwL : List Cond := [
  .fieldLinkNest "BallBoxes" 104 "BallBoxes$Strings" "size" "I" "BallBoxes",
  .fieldLinkNest "BallBoxes" 117 "BallBoxes$Strings" "boxesRead" "I" "BallBoxes",
  .fieldLinkNest "BallBoxes" 189 "BallBoxes$Sheet" "lost" "Z" "BallBoxes",
  .fieldLinkNest "BallBoxes" 193 "BallBoxes$Sheet" "size" "I" "BallBoxes",
  .fieldLinkNest "BallBoxes" 202 "BallBoxes$Sheet" "form" "I" "BallBoxes",
  .fieldLinkNest "BallBoxes" 208 "BallBoxes$Sheet" "items" "[I" "BallBoxes",
  .fieldLinkNest "BallBoxes" 223 "BallBoxes$Ring" "size" "I" "BallBoxes",
  .fieldLinkNest "BallBoxes" 224 "BallBoxes$Ring" "bits" "J" "BallBoxes",
  .fieldLinkNest "BallBoxes$RingTrial" 22 "BallBoxes$Ring" "size" "I" "BallBoxes",
  .fieldLinkNest "BallBoxes$RingTrial" 26 "BallBoxes$Ring" "bits" "J" "BallBoxes",
  .methodLinkNest "BallBoxes" 18 ⟨"BallBoxes$Pairs", "<init>", "()V"⟩ "BallBoxes",
  .methodLinkNest "BallBoxes" 25 ⟨"BallBoxes$Strings", "<init>", "()V"⟩ "BallBoxes",
  .methodLinkNest "BallBoxes" 35 ⟨"BallBoxes$Ring", "<init>", "()V"⟩ "BallBoxes",
  .methodLinkNest "BallBoxes" 42 ⟨"BallBoxes$RingTrial", "<init>", "()V"⟩ "BallBoxes",
  .methodLinkNest "BallBoxes" 53 ⟨"BallBoxes$Sheet", "<init>", "()V"⟩ "BallBoxes",
  .methodLinkNest "BallBoxes" 9 ⟨"BallBoxes$Row", "<init>", "()V"⟩ "BallBoxes",
  .methodLinkNest "BallBoxes$Ring" 31 ⟨"BallBoxes", "loadBehind", "(III)I"⟩ "BallBoxes",
  .methodLinkNest "BallBoxes$RingTrial" 11 ⟨"BallBoxes$Ring", "<init>", "()V"⟩ "BallBoxes",
  .methodLinkNest "BallBoxes$Row" 18 ⟨"BallBoxes", "isBox", "(I)Z"⟩ "BallBoxes",
  .methodLinkNest "BallBoxes$Row" 26 ⟨"BallBoxes", "loadBehind", "(III)I"⟩ "BallBoxes"]
def nestB : Cond → Bool
  | .fieldLinkNest _ _ _ _ _ _ => true
  | .methodLinkNest _ _ _ _ => true
  | _ => false
theorem nwL_nest : ∀ w ∈ nwL, nestB w = true := by decide +kernel
def NW (U : State) : Prop := (∀ w ∈ nwL, va_Nw w U) ∧ va_AO "BallBoxes$Sheet" U
theorem nest_same {w : Cond} (h : nestB w = true) {u U : State} (e : u.vm = U.vm) (q : va_Nw w u) : va_Nw w U := by
  cases w <;> first | (exact va_Nw.same rfl e q) | (simp [nestB] at h)
theorem nest_warm {w : Cond} (h : nestB w = true) {s U : State} (hW : s.WarmedH U.vm) (q : va_Nw w s) : va_Nw w U := by
  cases w <;> first | (exact va_Nw.warmF hW q) | (exact va_Nw.warmM hW q) | (simp [nestB] at h)
theorem NW.same {u U : State} (e : u.vm = U.vm) (q : NW u) : NW U := ⟨fun w h => nest_same (nwL_nest w h) e (q.1 w h), va_AO.moved (u := u) (e ▸ Vm.Alike.refl u.vm) q.2⟩
theorem NW.warm {s U : State} (hW : s.WarmedH U.vm) (q : NW s) : NW U := ⟨fun w h => nest_warm (nwL_nest w h) hW (q.1 w h), va_AO.moved hW.alike q.2⟩
abbrev TY (cI cZ cJ cO : ClassId) : List (ClassId × FieldType) := [(cI, .int), (cZ, .boolean), (cJ, .long), (cO, .object "BallBoxes$Sheet")]
/-- the start of a contract -/
def PreC (D : va_G) (tys : List (ClassId × FieldType)) (av : List Value) (wc : va_W) (sz : Nat) : Array Value → State → Prop := va_Pc av (fun U => U.heap.size = sz ∧ va_P D vwCl wc U.heap ∧ va_K D vwCl tys U ∧ va_D (fun _ => True) wc ∧ NW U)
def QcI (D : va_G) (wc : va_W) (A : Nat → Prop) (r : Int32) : Array Value → State → Outcome → State → Prop := va_Qi (fun (r' : Int32) (_ : Unit) => r' = r) (fun _ t => va_P D vwCl wc t.heap ∧ va_D A wc) A
def QcL (D : va_G) (wc : va_W) (A : Nat → Prop) (r : Int64) : Array Value → State → Outcome → State → Prop := va_Ql (fun (r' : Int64) (_ : Unit) => r' = r) (fun _ t => va_P D vwCl wc t.heap ∧ va_D A wc) A
def QcV (D : va_G) (wc : va_W) (A : Nat → Prop) : Array Value → State → Outcome → State → Prop := va_Qv (fun (_ : Unit) => True) (fun _ t => va_P D vwCl wc t.heap ∧ va_D A wc) A
def QcQ (D : va_G) (wc : va_W) (A : Nat → Prop) (r : Option Nat) : Array Value → State → Outcome → State → Prop := va_Qq (fun (r' : Option Nat) (_ : Unit) => r' = r) (fun _ t => va_P D vwCl wc t.heap ∧ va_D A wc) A
/-- the world at a place of a walk -/
def Wd (D : va_G) (A : Nat → Prop) (H0 : Heap) (ws : va_W) (H : Heap) (locs : List Loc) : Prop := va_P D vwCl ws H ∧ va_D A ws ∧ va_S A H0 H locs
theorem pc_blind {D : va_G} {tys : List (ClassId × FieldType)} {av : List Value} {wc : va_W} {sz : Nat} : FrameBlind (PreC D tys av wc sz) := fun _ U g mk q => by
  obtain ⟨q0, q1, qP, qK, qD, qN⟩ := q
  exact ⟨q0, q1, qP, va_K.moved (u := U) (Vm.Alike.refl U.vm) qK, qD, NW.same (u := U) rfl qN⟩
theorem fm_of {α β : Type} {f : α → Option β} : ∀ {l : List α} {w : List β}, l.map f = w.map some → l.filterMap f = w := by
  intro l
  induction l with
  | nil =>
    intro w h
    cases w with
    | nil => rfl
    | cons b w => cases h
  | cons a l ih =>
    intro w h
    cases w with
    | nil => cases h
    | cons b w =>
      injection h with h1 h2
      simp [List.filterMap_cons, h1, ih h2]
section HB
variable {p : Program} {l : Launch} {e : Env} {R : Room} {s : State} {m : MethodId} {args : Array Value} {below : List Frame} {meth : Method} {c : Code} {H H0 : Heap} {locs : List Loc} {cells slots : Nat} {Q : State → Prop} {cc : ByteArray} {nL : Nat} {Ts : List Cond} {own : String} {D : va_G} {tys : List (ClassId × FieldType)} {A : Nat → Prop} {ws wc wr wc' ws' : va_W} {pc : Nat} {ls : Array Slot} {rest st0 : List Value} {a : Nat}
theorem pre_S {As : List Value} (hK : va_K D vwCl tys s) (hN : NW s) (hw : Wd D A H0 ws H locs) (isC : List Nat) (hC : isC.map (fun i => ws[i]?) = wc.map some) (hCn : va_nd isC = true) : PreS s H (PreC D tys As wc H.size) As :=
  ⟨pc_blind, fun _ hU hW => ⟨rfl, by rw [hU], by rw [hU]; exact hw.1.sub isC (fm_of hC), va_K.moved hW.alike hK, (hw.2.1.sub isC hCn hC).weaken (fun _ _ _ _ => trivial), NW.warm hW hN⟩⟩
theorem pre_V {As : List Value} {b ci q0 N : Nat} {C : String} {T : u_T} {fs : List Value} (hK : va_K D vwCl tys s) (hN : NW s) (hw : Wd D A H0 ws H locs) (isC : List Nat) (hC : isC.map (fun i => ws[i]?) = wc.map some) (hCn : va_nd isC = true) (hc : vwCl[ci]? = some (C, T, N)) (he : wc[q0]? = some (b, .inr (ci, fs))) : PreV s H C b (PreC D tys (.ref b :: As) wc H.size) As :=
  ⟨pc_blind, va_recv hK (hw.1.sub isC (fm_of hC)) hc he, fun _ hU hW => ⟨rfl, by rw [hU], by rw [hU]; exact hw.1.sub isC (fm_of hC), va_K.moved hW.alike hK, (hw.2.1.sub isC hCn hC).weaken (fun _ _ _ _ => trivial), NW.warm hW hN⟩⟩
theorem wd_join {H1 : Heap} {locs1 : List Loc} {t : State} (hA : ∀ q, H0.size ≤ q → A q) (hw : Wd D A H0 ws H locs) (isC isR perm : List Nat) (hC : isC.map (fun i => ws[i]?) = wc.map some) (hR : isR.map (fun i => ws[i]?) = wr.map some) (hRn : va_nd isR = true) (hdis : ∀ i ∈ isR, i ∉ isC) (hp : perm.map (fun i => (wr ++ wc')[i]?) = ws'.map some) (hpn : va_nd perm = true) (ht : t.heap = H1) (hB : va_P D vwCl wc' t.heap ∧ va_D (va_A wc H.size) wc') (hk : ∀ q : Nat, q < H.size → ¬ va_A wc H.size q → H1[q]? = H[q]?) (hS : va_S A H0 H1 locs1) : Wd D A H0 ws' H1 locs1 := by
  have hF := va_free (wc := wc) hw.2.1 hw.2.2 hA isC hC
  have hP1 := hB.1
  rw [ht] at hP1
  obtain ⟨hP, hD⟩ := va_join (wr := wr) (w1 := wc') hw.1 hw.2.1 isC isR hC hR hRn hdis hk hF hP1 hB.2
  exact ⟨hP.sub perm (fm_of hp), hD.sub perm hpn hp, hS⟩
theorem cl_i {r : Int32} {av : Array Value} (hA : ∀ q, H0.size ≤ q → A q) (hw : Wd D A H0 ws H locs) (isC isR perm : List Nat) (hC : isC.map (fun i => ws[i]?) = wc.map some) (hR : isR.map (fun i => ws[i]?) = wr.map some) (hRn : va_nd isR = true) (hdis : ∀ i ∈ isR, i ∉ isC) (hp : perm.map (fun i => (wr ++ wc')[i]?) = ws'.map some) (hpn : va_nd perm = true)
    (hr : va_Run p l e R s m args below meth c H locs cells slots 0 0 (F0 m pc ls st0) rest (QcI D wc' (va_A wc H.size) r av) (va_A wc H.size))
    (kk : ∀ (H1 : Heap) (locs1 : List Loc), Wd D A H0 ws' H1 locs1 → W p l e R s m args below meth c H1 locs1 cells slots Q (F0 m (pc + 3) ls (.int r :: rest))) : W p l e R s m args below meth c H locs cells slots Q (F0 m pc ls st0) := by
  have hF := va_free (wc := wc) hw.2.1 hw.2.2 hA isC hC
  refine va_calli (A1 := va_A wc H.size) hr hw.2.2 (fun q _ h => hF q h) hF (fun r' u t H1 locs1 ht hvm he hB hz hk hS => ?_)
  cases he
  exact kk H1 locs1 (wd_join hA hw isC isR perm hC hR hRn hdis hp hpn ht hB hk hS)
theorem cl_l {r : Int64} {av : Array Value} (hA : ∀ q, H0.size ≤ q → A q) (hw : Wd D A H0 ws H locs) (isC isR perm : List Nat) (hC : isC.map (fun i => ws[i]?) = wc.map some) (hR : isR.map (fun i => ws[i]?) = wr.map some) (hRn : va_nd isR = true) (hdis : ∀ i ∈ isR, i ∉ isC) (hp : perm.map (fun i => (wr ++ wc')[i]?) = ws'.map some) (hpn : va_nd perm = true)
    (hr : va_Run p l e R s m args below meth c H locs cells slots 0 0 (F0 m pc ls st0) rest (QcL D wc' (va_A wc H.size) r av) (va_A wc H.size))
    (kk : ∀ (H1 : Heap) (locs1 : List Loc), Wd D A H0 ws' H1 locs1 → W p l e R s m args below meth c H1 locs1 cells slots Q (F0 m (pc + 3) ls (.long r :: rest))) : W p l e R s m args below meth c H locs cells slots Q (F0 m pc ls st0) := by
  have hF := va_free (wc := wc) hw.2.1 hw.2.2 hA isC hC
  refine va_calll (A1 := va_A wc H.size) hr hw.2.2 (fun q _ h => hF q h) hF (fun r' u t H1 locs1 ht hvm he hB hz hk hS => ?_)
  cases he
  exact kk H1 locs1 (wd_join hA hw isC isR perm hC hR hRn hdis hp hpn ht hB hk hS)
theorem cl_q {r : Option Nat} {av : Array Value} (hA : ∀ q, H0.size ≤ q → A q) (hw : Wd D A H0 ws H locs) (isC isR perm : List Nat) (hC : isC.map (fun i => ws[i]?) = wc.map some) (hR : isR.map (fun i => ws[i]?) = wr.map some) (hRn : va_nd isR = true) (hdis : ∀ i ∈ isR, i ∉ isC) (hp : perm.map (fun i => (wr ++ wc')[i]?) = ws'.map some) (hpn : va_nd perm = true)
    (hr : va_Run p l e R s m args below meth c H locs cells slots 0 0 (F0 m pc ls st0) rest (QcQ D wc' (va_A wc H.size) r av) (va_A wc H.size))
    (kk : ∀ (H1 : Heap) (locs1 : List Loc), Wd D A H0 ws' H1 locs1 → W p l e R s m args below meth c H1 locs1 cells slots Q (F0 m (pc + 3) ls (va_rf r :: rest))) : W p l e R s m args below meth c H locs cells slots Q (F0 m pc ls st0) := by
  have hF := va_free (wc := wc) hw.2.1 hw.2.2 hA isC hC
  refine va_callq (A1 := va_A wc H.size) hr hw.2.2 (fun q _ h => hF q h) hF (fun r' u t H1 locs1 ht hvm he hB hz hk hS => ?_)
  cases he
  exact kk H1 locs1 (wd_join hA hw isC isR perm hC hR hRn hdis hp hpn ht hB hk hS)
theorem cl_v {av : Array Value} (hA : ∀ q, H0.size ≤ q → A q) (hw : Wd D A H0 ws H locs) (isC isR perm : List Nat) (hC : isC.map (fun i => ws[i]?) = wc.map some) (hR : isR.map (fun i => ws[i]?) = wr.map some) (hRn : va_nd isR = true) (hdis : ∀ i ∈ isR, i ∉ isC) (hp : perm.map (fun i => (wr ++ wc')[i]?) = ws'.map some) (hpn : va_nd perm = true)
    (hr : va_Run p l e R s m args below meth c H locs cells slots 0 0 (F0 m pc ls st0) rest (QcV D wc' (va_A wc H.size) av) (va_A wc H.size))
    (kk : ∀ (H1 : Heap) (locs1 : List Loc), Wd D A H0 ws' H1 locs1 → W p l e R s m args below meth c H1 locs1 cells slots Q (F0 m (pc + 3) ls rest)) : W p l e R s m args below meth c H locs cells slots Q (F0 m pc ls st0) := by
  have hF := va_free (wc := wc) hw.2.1 hw.2.2 hA isC hC
  refine va_callv (A1 := va_A wc H.size) hr hw.2.2 (fun q _ h => hF q h) hF (fun u t H1 locs1 ht hvm he hB hz hk hS => ?_)
  exact kk H1 locs1 (wd_join hA hw isC isR perm hC hR hRn hdis hp hpn ht hB hk hS)
theorem g_get (S : CallFix p m c cc nL s args Ts own) {C : String} {T : u_T} {N ci index : Nat} (hin : ∀ w ∈ u_ws C T N, w ∈ Ts) (hK : va_K D vwCl tys s) (hw : Wd D A H0 ws H locs) (q0 k : Nat) {fs : List Value} {v : Value} (hlink : Cond.fieldLink own index (T k).1 (T k).2.1 (T k).2.2.1 ∈ Ts) (hdg : decode cc pc = .ok (.getfield index, 3)) (he : ws[q0]? = some (a, .inr (ci, fs))) (hc : vwCl[ci]? = some (C, T, N)) (hk : k < N) (hv : fs[k]? = some v)
    (kk : W p l e R s m args below meth c H locs cells slots Q (F0 m (pc + 3) ls (v :: rest))) : W p l e R s m args below meth c H locs cells slots Q (F0 m pc ls (.ref a :: rest)) :=
  va_get S.1 S.2.1 S.2.2.2.2 hin S.2.2.2.1 hK hw.1 q0 he hc k hk (S.2.2.2.2 _ hlink) (fun _ h => h) hv hdg kk
theorem g_getN (S : CallFix p m c cc nL s args Ts own) {C host : String} {T : u_T} {N ci index : Nat} (hin : ∀ w ∈ u_ws C T N, w ∈ Ts) (hK : va_K D vwCl tys s) (hN : NW s) (hw : Wd D A H0 ws H locs) (q0 k : Nat) {fs : List Value} {v : Value} (hlink : Cond.fieldLinkNest own index (T k).1 (T k).2.1 (T k).2.2.1 host ∈ nwL) (hdg : decode cc pc = .ok (.getfield index, 3)) (he : ws[q0]? = some (a, .inr (ci, fs))) (hc : vwCl[ci]? = some (C, T, N)) (hk : k < N) (hv : fs[k]? = some v)
    (kk : W p l e R s m args below meth c H locs cells slots Q (F0 m (pc + 3) ls (v :: rest))) : W p l e R s m args below meth c H locs cells slots Q (F0 m pc ls (.ref a :: rest)) :=
  va_getN S.1 S.2.1 S.2.2.2.2 hin S.2.2.2.1 hK hw.1 q0 he hc k hk (va_Nw.use rfl (hN.1 _ hlink)) (fun _ h => h) hv hdg kk
theorem g_put (S : CallFix p m c cc nL s args Ts own) {C : String} {T : u_T} {N ci index : Nat} (hin : ∀ w ∈ u_ws C T N, w ∈ Ts) (ty0 : Nat → FieldType) (hty : ∀ k, k < N → parseFieldDescriptor (T k).2.2.1 = some (ty0 k)) (hnm : ∀ a, a < N → ∀ b, b < N → a ≠ b → (T a).2.1 ≠ (T b).2.1) (hK : va_K D vwCl tys s) (hw : Wd D A H0 ws H locs) (q0 k : Nat) {fs : List Value} {v : Value} (hlink : Cond.fieldLink own index (T k).1 (T k).2.1 (T k).2.2.1 ∈ Ts) (hdg : decode cc pc = .ok (.putfield index, 3)) (he : ws[q0]? = some (a, .inr (ci, fs))) (hc : vwCl[ci]? = some (C, T, N)) (hk : k < N) (hfin : (T k).2.2.2 = false) (hn : narrow (ty0 k) v = v) (hfit : fits (ty0 k) v = true) (hl : k < fs.length) (hs : ws.set q0 (a, .inr (ci, fs.set k v)) = ws')
    (kk : ∀ (H1 : Heap) (locs1 : List Loc), Wd D A H0 ws' H1 locs1 → W p l e R s m args below meth c H1 locs1 cells slots Q (F0 m (pc + 3) ls rest)) : W p l e R s m args below meth c H locs cells slots Q (F0 m pc ls (v :: .ref a :: rest)) := by
  subst hs
  exact va_put S.1 S.2.1 S.2.2.2.2 hin ty0 hty hnm S.2.2.2.1 hK hw.1 hw.2.1 hw.2.2 q0 he hc k hk (S.2.2.2.2 _ hlink) (fun _ h => h) hfin (hty k hk) hn hfit hl hdg (fun H1 locs1 h1 h2 h3 => kk H1 locs1 ⟨h1, h2, h3⟩)
theorem g_putN (S : CallFix p m c cc nL s args Ts own) {C host : String} {T : u_T} {N ci index : Nat} (hin : ∀ w ∈ u_ws C T N, w ∈ Ts) (ty0 : Nat → FieldType) (hty : ∀ k, k < N → parseFieldDescriptor (T k).2.2.1 = some (ty0 k)) (hnm : ∀ a, a < N → ∀ b, b < N → a ≠ b → (T a).2.1 ≠ (T b).2.1) (hK : va_K D vwCl tys s) (hN : NW s) (hw : Wd D A H0 ws H locs) (q0 k : Nat) {fs : List Value} {v : Value} (hlink : Cond.fieldLinkNest own index (T k).1 (T k).2.1 (T k).2.2.1 host ∈ nwL) (hdg : decode cc pc = .ok (.putfield index, 3)) (he : ws[q0]? = some (a, .inr (ci, fs))) (hc : vwCl[ci]? = some (C, T, N)) (hk : k < N) (hfin : (T k).2.2.2 = false) (hn : narrow (ty0 k) v = v) (hfit : fits (ty0 k) v = true) (hl : k < fs.length) (hs : ws.set q0 (a, .inr (ci, fs.set k v)) = ws')
    (kk : ∀ (H1 : Heap) (locs1 : List Loc), Wd D A H0 ws' H1 locs1 → W p l e R s m args below meth c H1 locs1 cells slots Q (F0 m (pc + 3) ls rest)) : W p l e R s m args below meth c H locs cells slots Q (F0 m pc ls (v :: .ref a :: rest)) := by
  subst hs
  exact va_putN S.1 S.2.1 S.2.2.2.2 hin ty0 hty hnm S.2.2.2.1 hK hw.1 hw.2.1 hw.2.2 q0 he hc k hk (va_Nw.use rfl (hN.1 _ hlink)) (fun _ h => h) hfin (hty k hk) hn hfit hl hdg (fun H1 locs1 h1 h2 h3 => kk H1 locs1 ⟨h1, h2, h3⟩)
/-- is a place inside? -/
def inb (i : Int32) (n : Nat) : Bool := decide (¬ (i < 0 ∨ n ≤ i.toNatClampNeg))
theorem inb_in {i : Int32} {n : Nat} (h : inb i n = true) : vp_in i n := (of_decide_eq_true h : ¬ (i < 0 ∨ n ≤ i.toNatClampNeg))
def ck {α : Type} (b : Bool) (r : Option α) : Option α := match b with
  | true => r
  | false => none
theorem ck_some {α : Type} {b : Bool} {r : Option α} {z : α} (h : ck b r = some z) : b = true ∧ r = some z := by
  cases b
  · cases h
  · exact ⟨rfl, h⟩
theorem g_iald (S : CallFix p m c cc nL s args Ts own) (hK : va_K D vwCl tys s) (hw : Wd D A H0 ws H locs) (q0 t0 : Nat) {cA : ClassId} {n : Nat} {f : Nat → Int32} {i : Int32} (hin : inb i n = true) (hdg : decode cc pc = .ok (.iaload, 1)) (ha : ws[q0]? = some (a, .inl (cA, n, .inl f))) (ht : tys[t0]? = some (cA, .int))
    (kk : W p l e R s m args below meth c H locs cells slots Q (F0 m (pc + 1) ls (.int (f i.toNatClampNeg) :: rest))) : W p l e R s m args below meth c H locs cells slots Q (F0 m pc ls (.int i :: .ref a :: rest)) := va_iald S.1 S.2.1 hK hw.1 q0 t0 ha ht (inb_in hin) hdg kk
theorem g_zald (S : CallFix p m c cc nL s args Ts own) (hK : va_K D vwCl tys s) (hw : Wd D A H0 ws H locs) (q0 t0 : Nat) {cA : ClassId} {n : Nat} {f : Nat → Int32} {i : Int32} (hin : inb i n = true) (hdg : decode cc pc = .ok (.baload, 1)) (ha : ws[q0]? = some (a, .inl (cA, n, .inl f))) (ht : tys[t0]? = some (cA, .boolean))
    (kk : W p l e R s m args below meth c H locs cells slots Q (F0 m (pc + 1) ls (.int (f i.toNatClampNeg) :: rest))) : W p l e R s m args below meth c H locs cells slots Q (F0 m pc ls (.int i :: .ref a :: rest)) := va_zald S.1 S.2.1 hK hw.1 q0 t0 ha ht (inb_in hin) hdg kk
theorem g_lald (S : CallFix p m c cc nL s args Ts own) (hK : va_K D vwCl tys s) (hw : Wd D A H0 ws H locs) (q0 t0 : Nat) {cA : ClassId} {n : Nat} {f : Nat → Int64} {i : Int32} (hin : inb i n = true) (hdg : decode cc pc = .ok (.laload, 1)) (ha : ws[q0]? = some (a, .inl (cA, n, .inr (.inl f)))) (ht : tys[t0]? = some (cA, .long))
    (kk : W p l e R s m args below meth c H locs cells slots Q (F0 m (pc + 1) ls (.long (f i.toNatClampNeg) :: rest))) : W p l e R s m args below meth c H locs cells slots Q (F0 m pc ls (.int i :: .ref a :: rest)) := va_lald S.1 S.2.1 hK hw.1 q0 t0 ha ht (inb_in hin) hdg kk
theorem g_iast (S : CallFix p m c cc nL s args Ts own) (hK : va_K D vwCl tys s) (hw : Wd D A H0 ws H locs) (q0 t0 : Nat) {cA : ClassId} {n : Nat} {f : Nat → Int32} {i x : Int32} (hin : inb i n = true) (hdg : decode cc pc = .ok (.iastore, 1)) (ha : ws[q0]? = some (a, .inl (cA, n, .inl f))) (ht : tys[t0]? = some (cA, .int)) (hs : ws.set q0 (a, .inl (cA, n, .inl (upd f i.toNatClampNeg x))) = ws')
    (kk : ∀ (H1 : Heap) (locs1 : List Loc), Wd D A H0 ws' H1 locs1 → W p l e R s m args below meth c H1 locs1 cells slots Q (F0 m (pc + 1) ls rest)) : W p l e R s m args below meth c H locs cells slots Q (F0 m pc ls (.int x :: .int i :: .ref a :: rest)) := by
  subst hs
  exact va_iast S.1 S.2.1 hK hw.1 hw.2.1 hw.2.2 q0 t0 ha ht (inb_in hin) hdg (fun H1 locs1 h1 h2 h3 => kk H1 locs1 ⟨h1, h2, h3⟩)
theorem g_zast (S : CallFix p m c cc nL s args Ts own) (hK : va_K D vwCl tys s) (hw : Wd D A H0 ws H locs) (q0 t0 : Nat) {cA : ClassId} {n : Nat} {f : Nat → Int32} {i x : Int32} (hin : inb i n = true) (hdg : decode cc pc = .ok (.bastore, 1)) (ha : ws[q0]? = some (a, .inl (cA, n, .inl f))) (ht : tys[t0]? = some (cA, .boolean)) (hs : ws.set q0 (a, .inl (cA, n, .inl (upd f i.toNatClampNeg (vp_nar .boolean x)))) = ws')
    (kk : ∀ (H1 : Heap) (locs1 : List Loc), Wd D A H0 ws' H1 locs1 → W p l e R s m args below meth c H1 locs1 cells slots Q (F0 m (pc + 1) ls rest)) : W p l e R s m args below meth c H locs cells slots Q (F0 m pc ls (.int x :: .int i :: .ref a :: rest)) := by
  subst hs
  exact va_zast S.1 S.2.1 hK hw.1 hw.2.1 hw.2.2 q0 t0 ha ht (inb_in hin) hdg (fun H1 locs1 h1 h2 h3 => kk H1 locs1 ⟨h1, h2, h3⟩)
theorem g_last (S : CallFix p m c cc nL s args Ts own) (hK : va_K D vwCl tys s) (hw : Wd D A H0 ws H locs) (q0 t0 : Nat) {cA : ClassId} {n : Nat} {f : Nat → Int64} {i : Int32} {x : Int64} (hin : inb i n = true) (hdg : decode cc pc = .ok (.lastore, 1)) (ha : ws[q0]? = some (a, .inl (cA, n, .inr (.inl f)))) (ht : tys[t0]? = some (cA, .long)) (hs : ws.set q0 (a, .inl (cA, n, .inr (.inl (vp_updL f i.toNatClampNeg x)))) = ws')
    (kk : ∀ (H1 : Heap) (locs1 : List Loc), Wd D A H0 ws' H1 locs1 → W p l e R s m args below meth c H1 locs1 cells slots Q (F0 m (pc + 1) ls rest)) : W p l e R s m args below meth c H locs cells slots Q (F0 m pc ls (.long x :: .int i :: .ref a :: rest)) := by
  subst hs
  exact va_last S.1 S.2.1 hK hw.1 hw.2.1 hw.2.2 q0 t0 ha ht (inb_in hin) hdg (fun H1 locs1 h1 h2 h3 => kk H1 locs1 ⟨h1, h2, h3⟩)
theorem rt_i {r : Int32} (S : CallFix p m c cc nL s args Ts own) (hr : meth.sig.returnType = some .int) (hlk : meth.locks = false) (hw : Wd D A s.heap ws H locs) (hdg : decode cc pc = .ok (.ireturn, 1)) : W p l e R s m args below meth c H locs cells slots (MQ below (QcI D ws A r) args s cells slots A) (F0 m pc ls [.int r]) :=
  W.iret (v := r) S.1 S.2.1 hr (fun _ ht _ => ⟨⟨r, (), rfl, rfl, by rw [ht]; exact hw.1, hw.2.1⟩, hw.2.2.F ht⟩) hw.2.2.2.2 hdg hlk
theorem rt_z {r : Int32} (S : CallFix p m c cc nL s args Ts own) (hr : meth.sig.returnType = some .boolean) (hlk : meth.locks = false) (hw : Wd D A s.heap ws H locs) (hdg : decode cc pc = .ok (.ireturn, 1)) (hn : narrow .boolean (.int r) = .int r) : W p l e R s m args below meth c H locs cells slots (MQ below (QcI D ws A r) args s cells slots A) (F0 m pc ls [.int r]) :=
  W.zret (v := r) S.1 S.2.1 hr hn (fun _ ht _ => ⟨⟨r, (), rfl, rfl, by rw [ht]; exact hw.1, hw.2.1⟩, hw.2.2.F ht⟩) hw.2.2.2.2 hdg hlk
theorem rt_l {r : Int64} (S : CallFix p m c cc nL s args Ts own) (hr : meth.sig.returnType = some .long) (hlk : meth.locks = false) (hw : Wd D A s.heap ws H locs) (hdg : decode cc pc = .ok (.lreturn, 1)) : W p l e R s m args below meth c H locs cells slots (MQ below (QcL D ws A r) args s cells slots A) (F0 m pc ls [.long r]) :=
  W.lret (v := r) S.1 S.2.1 hr (fun _ ht _ => ⟨⟨r, (), rfl, rfl, by rw [ht]; exact hw.1, hw.2.1⟩, hw.2.2.F ht⟩) hw.2.2.2.2 hdg hlk
theorem rt_v (S : CallFix p m c cc nL s args Ts own) (hr : meth.sig.returnType = none) (hlk : meth.locks = false) (hw : Wd D A s.heap ws H locs) (hdg : decode cc pc = .ok (.return_, 1)) : W p l e R s m args below meth c H locs cells slots (MQ below (QcV D ws A) args s cells slots A) (F0 m pc ls []) :=
  W.vret S.1 S.2.1 hr (fun _ ht _ => ⟨⟨(), rfl, trivial, by rw [ht]; exact hw.1, hw.2.1⟩, hw.2.2.F ht⟩) hw.2.2.2.2 hdg hlk
/-- a contract out of a walk from the first instruction -/
theorem ctr {y : MethodName} {wS wS' : List Cond} {rm : Room} {av : List Value} {sz mc ms maxL : Nat} {Qc : Array Value → State → Outcome → State → Prop} {ret : Option FieldType} (hy : plainName y.cls = true) (hwS : wS = Cond.code y cc maxL ret :: wS') (hlen : (lg_sl av).length ≤ maxL)
    (body : ∀ (p : Program) (e : Env) (s : State) (m : MethodId) (below : List Frame) (meth : Method) (c : Code), CallFix p m c cc maxL s av.toArray wS y.cls → meth.sig.returnType = ret → meth.locks = false → meth.name = y.name → va_K D vwCl tys s → NW s → s.heap.size = sz → (∀ q, s.heap.size ≤ q → va_A wc sz q) → Wd D (va_A wc sz) s.heap wc s.heap [] → ∀ (ls : Array Slot), lv_has ls maxL (lv_args 0 av) → W p l e rm s m av.toArray below meth c s.heap [] 0 0 (MQ below Qc av.toArray s mc ms (va_A wc sz)) (F0 m 0 ls [])) : Met l y wS rm (PreC D tys av wc sz) Qc mc ms (va_A wc sz) := by
  refine Met.ofW (cc := cc) (maxL := maxL) (ret := ret) hy hwS ?_
  intro p e s m args below meth c s₁ B hml hv
  obtain ⟨rfl, hsz, hP, hK, hD0, hN⟩ := hv
  have hts := atoms_spec (ws := wS) B.pre
  have hown : s.vm.findClass y.cls = some m.cls := findClass_of_methodNamed B.named
  have hl := lv_entry av (n := maxL) hlen
  rw [lg_entry_eq]
  exact body p e s m below meth c ⟨B.exec, B.bytes, hml, hown, hts⟩ B.returns B.notSynchronized (name_of_methodNamed B.named B.method).1 hK hN hsz (fun q h => Or.inr (by rw [← hsz]; exact h)) ⟨hP, hD0.self, va_S.rf⟩ _ hl
end HB
def bd1 {α β : Type} (o : Option α) (k : α → Option β) : Option β := match o with
  | some a => k a
  | none => none
def bd2 {α β γ : Type} (o : Option (α × β)) (k : α → β → Option γ) : Option γ := match o with
  | some (a, b) => k a b
  | none => none
def bd3 {α β γ δ : Type} (o : Option (α × β × γ)) (k : α → β → γ → Option δ) : Option δ := match o with
  | some (a, b, c) => k a b c
  | none => none
def bd4 {α β γ δ ε : Type} (o : Option (α × β × γ × δ)) (k : α → β → γ → δ → Option ε) : Option ε := match o with
  | some (a, b, c, d) => k a b c d
  | none => none
def bd5 {α β γ δ ε ζ : Type} (o : Option (α × β × γ × δ × ε)) (k : α → β → γ → δ → ε → Option ζ) : Option ζ := match o with
  | some (a, b, c, d, e) => k a b c d e
  | none => none
def bd6 {α β γ δ ε ζ η : Type} (o : Option (α × β × γ × δ × ε × ζ)) (k : α → β → γ → δ → ε → ζ → Option η) : Option η := match o with
  | some (a, b, c, d, e, f) => k a b c d e f
  | none => none
def bd7 {α β γ δ ε ζ η θ : Type} (o : Option (α × β × γ × δ × ε × ζ × η)) (k : α → β → γ → δ → ε → ζ → η → Option θ) : Option θ := match o with
  | some (a, b, c, d, e, f, g) => k a b c d e f g
  | none => none
theorem bd1_some {α β : Type} {o : Option α} {k : α → Option β} {z : β} (h : bd1 o k = some z) : ∃ a, o = some a ∧ k a = some z := by
  cases o with
  | none => cases h
  | some o => exact ⟨o, rfl, h⟩
theorem bd2_some {α β γ : Type} {o : Option (α × β)} {k : α → β → Option γ} {z : γ} (h : bd2 o k = some z) : ∃ a b, o = some (a, b) ∧ k a b = some z := by
  cases o with
  | none => cases h
  | some o => exact ⟨o.1, o.2, rfl, h⟩
theorem bd3_some {α β γ δ : Type} {o : Option (α × β × γ)} {k : α → β → γ → Option δ} {z : δ} (h : bd3 o k = some z) : ∃ a b c, o = some (a, b, c) ∧ k a b c = some z := by
  cases o with
  | none => cases h
  | some o => exact ⟨o.1, o.2.1, o.2.2, rfl, h⟩
theorem bd4_some {α β γ δ ε : Type} {o : Option (α × β × γ × δ)} {k : α → β → γ → δ → Option ε} {z : ε} (h : bd4 o k = some z) : ∃ a b c d, o = some (a, b, c, d) ∧ k a b c d = some z := by
  cases o with
  | none => cases h
  | some o => exact ⟨o.1, o.2.1, o.2.2.1, o.2.2.2, rfl, h⟩
theorem bd5_some {α β γ δ ε ζ : Type} {o : Option (α × β × γ × δ × ε)} {k : α → β → γ → δ → ε → Option ζ} {z : ζ} (h : bd5 o k = some z) : ∃ a b c d e, o = some (a, b, c, d, e) ∧ k a b c d e = some z := by
  cases o with
  | none => cases h
  | some o => exact ⟨o.1, o.2.1, o.2.2.1, o.2.2.2.1, o.2.2.2.2, rfl, h⟩
theorem bd6_some {α β γ δ ε ζ η : Type} {o : Option (α × β × γ × δ × ε × ζ)} {k : α → β → γ → δ → ε → ζ → Option η} {z : η} (h : bd6 o k = some z) : ∃ a b c d e f, o = some (a, b, c, d, e, f) ∧ k a b c d e f = some z := by
  cases o with
  | none => cases h
  | some o => exact ⟨o.1, o.2.1, o.2.2.1, o.2.2.2.1, o.2.2.2.2.1, o.2.2.2.2.2, rfl, h⟩
theorem bd7_some {α β γ δ ε ζ η θ : Type} {o : Option (α × β × γ × δ × ε × ζ × η)} {k : α → β → γ → δ → ε → ζ → η → Option θ} {z : θ} (h : bd7 o k = some z) : ∃ a b c d e f g, o = some (a, b, c, d, e, f, g) ∧ k a b c d e f g = some z := by
  cases o with
  | none => cases h
  | some o => exact ⟨o.1, o.2.1, o.2.2.1, o.2.2.2.1, o.2.2.2.2.1, o.2.2.2.2.2.1, o.2.2.2.2.2.2, rfl, h⟩
def ushI (x y : Int32) : Int32 := (x.toUInt32 >>> (y.toUInt32 &&& Int32.toUInt32 31)).toInt32
def ushL (x : Int64) (y : Int32) : Int64 := (x.toUInt64 >>> (y.toInt64.toUInt64 &&& Int64.toUInt64 63)).toInt64
def shlL (x : Int64) (y : Int32) : Int64 := x <<< (y.toInt64 &&& 63)
def mnI (x y : Int32) : Int32 := if y < x then y else x
def mxI (x y : Int32) : Int32 := if x < y then y else x
def shOf (s : Int32) (g : Nat → Option Nat) : Option Nat := if s < 0 then none else if (4 : Int32) ≤ s then none else g s.toNatClampNeg
theorem sw_ne {x k : Int32} {z : Int} (h : ¬ x = k) (hz : k.toInt = z) : x.toInt ≠ z := fun e => h (Int32.toInt_inj.mp (e.trans hz.symm))
def cpok (sp dp n : Int32) (a b : Nat) : Bool := decide (¬ sp < 0 ∧ ¬ dp < 0 ∧ ¬ n < 0 ∧ sp.toNatClampNeg + n.toNatClampNeg ≤ a ∧ dp.toNatClampNeg + n.toNatClampNeg ≤ b)
theorem cpok_all {sp dp n : Int32} {a b : Nat} (h : cpok sp dp n a b = true) : ¬ sp < 0 ∧ ¬ dp < 0 ∧ ¬ n < 0 ∧ sp.toNatClampNeg + n.toNatClampNeg ≤ a ∧ dp.toNatClampNeg + n.toNatClampNeg ≤ b := of_decide_eq_true h
theorem cpok_1 {sp dp n : Int32} {a b : Nat} (h : cpok sp dp n a b = true) : ¬ sp < 0 := (cpok_all h).1
theorem cpok_2 {sp dp n : Int32} {a b : Nat} (h : cpok sp dp n a b = true) : ¬ dp < 0 := (cpok_all h).2.1
theorem cpok_3 {sp dp n : Int32} {a b : Nat} (h : cpok sp dp n a b = true) : ¬ n < 0 := (cpok_all h).2.2.1
theorem cpok_4 {sp dp n : Int32} {a b : Nat} (h : cpok sp dp n a b = true) : sp.toNatClampNeg + n.toNatClampNeg ≤ a := (cpok_all h).2.2.2.1
theorem cpok_5 {sp dp n : Int32} {a b : Nat} (h : cpok sp dp n a b = true) : dp.toNatClampNeg + n.toNatClampNeg ≤ b := (cpok_all h).2.2.2.2
theorem pr2 {A0 A1 : Type} {a0 b0 : A0} {a1 b1 : A1} (h : (a0, a1) = (b0, b1)) : a0 = b0 ∧ a1 = b1 := by
  injection h with h0 t0
  exact ⟨h0, t0⟩
theorem pr3 {A0 A1 A2 : Type} {a0 b0 : A0} {a1 b1 : A1} {a2 b2 : A2} (h : (a0, a1, a2) = (b0, b1, b2)) : a0 = b0 ∧ a1 = b1 ∧ a2 = b2 := by
  injection h with h0 t0
  injection t0 with h1 t1
  exact ⟨h0, h1, t1⟩
theorem pr4 {A0 A1 A2 A3 : Type} {a0 b0 : A0} {a1 b1 : A1} {a2 b2 : A2} {a3 b3 : A3} (h : (a0, a1, a2, a3) = (b0, b1, b2, b3)) : a0 = b0 ∧ a1 = b1 ∧ a2 = b2 ∧ a3 = b3 := by
  injection h with h0 t0
  injection t0 with h1 t1
  injection t1 with h2 t2
  exact ⟨h0, h1, h2, t2⟩
theorem pr5 {A0 A1 A2 A3 A4 : Type} {a0 b0 : A0} {a1 b1 : A1} {a2 b2 : A2} {a3 b3 : A3} {a4 b4 : A4} (h : (a0, a1, a2, a3, a4) = (b0, b1, b2, b3, b4)) : a0 = b0 ∧ a1 = b1 ∧ a2 = b2 ∧ a3 = b3 ∧ a4 = b4 := by
  injection h with h0 t0
  injection t0 with h1 t1
  injection t1 with h2 t2
  injection t2 with h3 t3
  exact ⟨h0, h1, h2, h3, t3⟩
theorem pr6 {A0 A1 A2 A3 A4 A5 : Type} {a0 b0 : A0} {a1 b1 : A1} {a2 b2 : A2} {a3 b3 : A3} {a4 b4 : A4} {a5 b5 : A5} (h : (a0, a1, a2, a3, a4, a5) = (b0, b1, b2, b3, b4, b5)) : a0 = b0 ∧ a1 = b1 ∧ a2 = b2 ∧ a3 = b3 ∧ a4 = b4 ∧ a5 = b5 := by
  injection h with h0 t0
  injection t0 with h1 t1
  injection t1 with h2 t2
  injection t2 with h3 t3
  injection t3 with h4 t4
  exact ⟨h0, h1, h2, h3, h4, t4⟩
theorem pr7 {A0 A1 A2 A3 A4 A5 A6 : Type} {a0 b0 : A0} {a1 b1 : A1} {a2 b2 : A2} {a3 b3 : A3} {a4 b4 : A4} {a5 b5 : A5} {a6 b6 : A6} (h : (a0, a1, a2, a3, a4, a5, a6) = (b0, b1, b2, b3, b4, b5, b6)) : a0 = b0 ∧ a1 = b1 ∧ a2 = b2 ∧ a3 = b3 ∧ a4 = b4 ∧ a5 = b5 ∧ a6 = b6 := by
  injection h with h0 t0
  injection t0 with h1 t1
  injection t1 with h2 t2
  injection t2 with h3 t3
  injection t3 with h4 t4
  injection t4 with h5 t5
  exact ⟨h0, h1, h2, h3, h4, h5, t5⟩
theorem pr8 {A0 A1 A2 A3 A4 A5 A6 A7 : Type} {a0 b0 : A0} {a1 b1 : A1} {a2 b2 : A2} {a3 b3 : A3} {a4 b4 : A4} {a5 b5 : A5} {a6 b6 : A6} {a7 b7 : A7} (h : (a0, a1, a2, a3, a4, a5, a6, a7) = (b0, b1, b2, b3, b4, b5, b6, b7)) : a0 = b0 ∧ a1 = b1 ∧ a2 = b2 ∧ a3 = b3 ∧ a4 = b4 ∧ a5 = b5 ∧ a6 = b6 ∧ a7 = b7 := by
  injection h with h0 t0
  injection t0 with h1 t1
  injection t1 with h2 t2
  injection t2 with h3 t3
  injection t3 with h4 t4
  injection t4 with h5 t5
  injection t5 with h6 t6
  exact ⟨h0, h1, h2, h3, h4, h5, h6, t6⟩
def bd8 {A0 A1 A2 A3 A4 A5 A6 A7 B : Type} (o : Option (A0 × A1 × A2 × A3 × A4 × A5 × A6 × A7)) (k : A0 → A1 → A2 → A3 → A4 → A5 → A6 → A7 → Option B) : Option B := match o with
  | some (a, b, c, d, e, f, g, h) => k a b c d e f g h
  | none => none
theorem bd8_some {A0 A1 A2 A3 A4 A5 A6 A7 B : Type} {o : Option (A0 × A1 × A2 × A3 × A4 × A5 × A6 × A7)} {k : A0 → A1 → A2 → A3 → A4 → A5 → A6 → A7 → Option B} {z : B} (h : bd8 o k = some z) : ∃ a b c d e f g i, o = some (a, b, c, d, e, f, g, i) ∧ k a b c d e f g i = some z := by
  cases o with
  | none => cases h
  | some o => exact ⟨o.1, o.2.1, o.2.2.1, o.2.2.2.1, o.2.2.2.2.1, o.2.2.2.2.2.1, o.2.2.2.2.2.2.1, o.2.2.2.2.2.2.2, rfl, h⟩
