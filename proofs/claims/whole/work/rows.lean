section
-- ===== PART A: goes FIRST, ahead of the names: the tables' words, and 'selects' of the private methods out of them =====
/-- a private method of a class that the tables say can be made, by its rows of tables_1 -/
def lw_okq (q : MethodName × Nat) : Prop := (q.1.cls ≠ "java/lang/invoke/MethodHandle" ∧ q.1.cls ≠ "java/lang/invoke/VarHandle") ∧ Cond.instantiable q.1.cls q.2 ∈ tables_1 ∧ Cond.privateMethod q.1 ∈ tables_1 ∧ Cond.instanceMethod q.1 ∈ tables_1
theorem lw_p0 : lw_okq (⟨"BallBoxes", "carry", "(IZ)I"⟩, 9) := ⟨⟨by decide +kernel, by decide +kernel⟩, List.mem_of_getElem? (i := 14) (by decide +kernel), List.mem_of_getElem? (i := 203) (by decide +kernel), List.mem_of_getElem? (i := 204) (by decide +kernel)⟩
theorem lw_p1 : lw_okq (⟨"BallBoxes$Pairs", "begin", "(LBallBoxes$Row;)V"⟩, 2) := ⟨⟨by decide +kernel, by decide +kernel⟩, List.mem_of_getElem? (i := 36) (by decide +kernel), List.mem_of_getElem? (i := 251) (by decide +kernel), List.mem_of_getElem? (i := 252) (by decide +kernel)⟩
theorem lw_p2 : lw_okq (⟨"BallBoxes$Pairs", "takeOut", "()I"⟩, 2) := ⟨⟨by decide +kernel, by decide +kernel⟩, List.mem_of_getElem? (i := 36) (by decide +kernel), List.mem_of_getElem? (i := 256) (by decide +kernel), List.mem_of_getElem? (i := 257) (by decide +kernel)⟩
theorem lw_p3 : lw_okq (⟨"BallBoxes$Strings", "clear", "()V"⟩, 5) := ⟨⟨by decide +kernel, by decide +kernel⟩, List.mem_of_getElem? (i := 49) (by decide +kernel), List.mem_of_getElem? (i := 276) (by decide +kernel), List.mem_of_getElem? (i := 277) (by decide +kernel)⟩
theorem lw_p4 : lw_okq (⟨"BallBoxes$Strings", "takeBall", "(I)V"⟩, 5) := ⟨⟨by decide +kernel, by decide +kernel⟩, List.mem_of_getElem? (i := 49) (by decide +kernel), List.mem_of_getElem? (i := 281) (by decide +kernel), List.mem_of_getElem? (i := 282) (by decide +kernel)⟩
theorem lw_p5 : lw_okq (⟨"BallBoxes$Strings", "longestTight", "(I)I"⟩, 5) := ⟨⟨by decide +kernel, by decide +kernel⟩, List.mem_of_getElem? (i := 49) (by decide +kernel), List.mem_of_getElem? (i := 285) (by decide +kernel), List.mem_of_getElem? (i := 286) (by decide +kernel)⟩
theorem lw_p6 : lw_okq (⟨"BallBoxes$Strings", "isTight", "(II)Z"⟩, 5) := ⟨⟨by decide +kernel, by decide +kernel⟩, List.mem_of_getElem? (i := 49) (by decide +kernel), List.mem_of_getElem? (i := 289) (by decide +kernel), List.mem_of_getElem? (i := 290) (by decide +kernel)⟩
theorem lw_p7 : lw_okq (⟨"BallBoxes$Strings", "addString", "()I"⟩, 5) := ⟨⟨by decide +kernel, by decide +kernel⟩, List.mem_of_getElem? (i := 49) (by decide +kernel), List.mem_of_getElem? (i := 309) (by decide +kernel), List.mem_of_getElem? (i := 310) (by decide +kernel)⟩
theorem lw_p8 : lw_okq (⟨"BallBoxes$Strings", "addToSums", "(II)V"⟩, 5) := ⟨⟨by decide +kernel, by decide +kernel⟩, List.mem_of_getElem? (i := 49) (by decide +kernel), List.mem_of_getElem? (i := 313) (by decide +kernel), List.mem_of_getElem? (i := 314) (by decide +kernel)⟩
theorem lw_p9 : lw_okq (⟨"BallBoxes$Strings", "isBehind", "(II)Z"⟩, 5) := ⟨⟨by decide +kernel, by decide +kernel⟩, List.mem_of_getElem? (i := 49) (by decide +kernel), List.mem_of_getElem? (i := 324) (by decide +kernel), List.mem_of_getElem? (i := 325) (by decide +kernel)⟩
theorem lw_p10 : lw_okq (⟨"BallBoxes$Strings", "swap", "(II)V"⟩, 5) := ⟨⟨by decide +kernel, by decide +kernel⟩, List.mem_of_getElem? (i := 49) (by decide +kernel), List.mem_of_getElem? (i := 328) (by decide +kernel), List.mem_of_getElem? (i := 329) (by decide +kernel)⟩
theorem lw_p11 : lw_okq (⟨"BallBoxes$Strings", "giveBall", "(I)I"⟩, 5) := ⟨⟨by decide +kernel, by decide +kernel⟩, List.mem_of_getElem? (i := 49) (by decide +kernel), List.mem_of_getElem? (i := 359) (by decide +kernel), List.mem_of_getElem? (i := 360) (by decide +kernel)⟩
theorem lw_p12 : lw_okq (⟨"BallBoxes$Strings", "shortestTight", "(I)I"⟩, 5) := ⟨⟨by decide +kernel, by decide +kernel⟩, List.mem_of_getElem? (i := 49) (by decide +kernel), List.mem_of_getElem? (i := 363) (by decide +kernel), List.mem_of_getElem? (i := 364) (by decide +kernel)⟩
theorem lw_p13 : lw_okq (⟨"BallBoxes$Strings", "removeString", "(I)V"⟩, 5) := ⟨⟨by decide +kernel, by decide +kernel⟩, List.mem_of_getElem? (i := 49) (by decide +kernel), List.mem_of_getElem? (i := 367) (by decide +kernel), List.mem_of_getElem? (i := 368) (by decide +kernel)⟩
theorem lw_p14 : lw_okq (⟨"BallBoxes$Ring", "goRound", "(II)V"⟩, 4) := ⟨⟨by decide +kernel, by decide +kernel⟩, List.mem_of_getElem? (i := 73) (by decide +kernel), List.mem_of_getElem? (i := 413) (by decide +kernel), List.mem_of_getElem? (i := 414) (by decide +kernel)⟩
theorem lw_p15 : lw_okq (⟨"BallBoxes$RingTrial", "forget", "()V"⟩, 2) := ⟨⟨by decide +kernel, by decide +kernel⟩, List.mem_of_getElem? (i := 96) (by decide +kernel), List.mem_of_getElem? (i := 447) (by decide +kernel), List.mem_of_getElem? (i := 448) (by decide +kernel)⟩
def lw_privs_1 : List (MethodName × Nat) := [(⟨"BallBoxes", "carry", "(IZ)I"⟩, 9), (⟨"BallBoxes$Pairs", "begin", "(LBallBoxes$Row;)V"⟩, 2), (⟨"BallBoxes$Pairs", "takeOut", "()I"⟩, 2), (⟨"BallBoxes$Strings", "clear", "()V"⟩, 5), (⟨"BallBoxes$Strings", "takeBall", "(I)V"⟩, 5), (⟨"BallBoxes$Strings", "longestTight", "(I)I"⟩, 5), (⟨"BallBoxes$Strings", "isTight", "(II)Z"⟩, 5), (⟨"BallBoxes$Strings", "addString", "()I"⟩, 5), (⟨"BallBoxes$Strings", "addToSums", "(II)V"⟩, 5), (⟨"BallBoxes$Strings", "isBehind", "(II)Z"⟩, 5), (⟨"BallBoxes$Strings", "swap", "(II)V"⟩, 5), (⟨"BallBoxes$Strings", "giveBall", "(I)I"⟩, 5), (⟨"BallBoxes$Strings", "shortestTight", "(I)I"⟩, 5), (⟨"BallBoxes$Strings", "removeString", "(I)V"⟩, 5), (⟨"BallBoxes$Ring", "goRound", "(II)V"⟩, 4), (⟨"BallBoxes$RingTrial", "forget", "()V"⟩, 2)]
theorem lw_r1 : ∀ q ∈ lw_privs_1, lw_okq q := List.forall_mem_cons.mpr ⟨lw_p0, List.forall_mem_cons.mpr ⟨lw_p1, List.forall_mem_cons.mpr ⟨lw_p2, List.forall_mem_cons.mpr ⟨lw_p3, List.forall_mem_cons.mpr ⟨lw_p4, List.forall_mem_cons.mpr ⟨lw_p5, List.forall_mem_cons.mpr ⟨lw_p6, List.forall_mem_cons.mpr ⟨lw_p7, List.forall_mem_cons.mpr ⟨lw_p8, List.forall_mem_cons.mpr ⟨lw_p9, List.forall_mem_cons.mpr ⟨lw_p10, List.forall_mem_cons.mpr ⟨lw_p11, List.forall_mem_cons.mpr ⟨lw_p12, List.forall_mem_cons.mpr ⟨lw_p13, List.forall_mem_cons.mpr ⟨lw_p14, List.forall_mem_cons.mpr ⟨lw_p15, fun _ h => absurd h List.not_mem_nil⟩⟩⟩⟩⟩⟩⟩⟩⟩⟩⟩⟩⟩⟩⟩⟩
theorem lw_p16 : lw_okq (⟨"BallBoxes$RingTrial", "isSeen", "(I)Z"⟩, 2) := ⟨⟨by decide +kernel, by decide +kernel⟩, List.mem_of_getElem? (i := 96) (by decide +kernel), List.mem_of_getElem? (i := 451) (by decide +kernel), List.mem_of_getElem? (i := 452) (by decide +kernel)⟩
theorem lw_p17 : lw_okq (⟨"BallBoxes$RingTrial", "goThrough", "(III)I"⟩, 2) := ⟨⟨by decide +kernel, by decide +kernel⟩, List.mem_of_getElem? (i := 96) (by decide +kernel), List.mem_of_getElem? (i := 455) (by decide +kernel), List.mem_of_getElem? (i := 456) (by decide +kernel)⟩
theorem lw_p18 : lw_okq (⟨"BallBoxes$RingTrial", "see", "(I)V"⟩, 2) := ⟨⟨by decide +kernel, by decide +kernel⟩, List.mem_of_getElem? (i := 96) (by decide +kernel), List.mem_of_getElem? (i := 459) (by decide +kernel), List.mem_of_getElem? (i := 460) (by decide +kernel)⟩
theorem lw_p19 : lw_okq (⟨"BallBoxes", "sheetOf", "(I)LBallBoxes$Sheet;"⟩, 9) := ⟨⟨by decide +kernel, by decide +kernel⟩, List.mem_of_getElem? (i := 14) (by decide +kernel), List.mem_of_getElem? (i := 467) (by decide +kernel), List.mem_of_getElem? (i := 468) (by decide +kernel)⟩
theorem lw_p20 : lw_okq (⟨"BallBoxes", "find", "(I)I"⟩, 9) := ⟨⟨by decide +kernel, by decide +kernel⟩, List.mem_of_getElem? (i := 14) (by decide +kernel), List.mem_of_getElem? (i := 474) (by decide +kernel), List.mem_of_getElem? (i := 475) (by decide +kernel)⟩
theorem lw_p21 : lw_okq (⟨"BallBoxes$Sheet", "isItem", "(I)Z"⟩, 4) := ⟨⟨by decide +kernel, by decide +kernel⟩, List.mem_of_getElem? (i := 113) (by decide +kernel), List.mem_of_getElem? (i := 494) (by decide +kernel), List.mem_of_getElem? (i := 495) (by decide +kernel)⟩
theorem lw_p22 : lw_okq (⟨"BallBoxes$Sheet", "cut", "(I)I"⟩, 4) := ⟨⟨by decide +kernel, by decide +kernel⟩, List.mem_of_getElem? (i := 113) (by decide +kernel), List.mem_of_getElem? (i := 502) (by decide +kernel), List.mem_of_getElem? (i := 503) (by decide +kernel)⟩
theorem lw_p23 : lw_okq (⟨"BallBoxesModel", "balls", "()I"⟩, 22) := ⟨⟨by decide +kernel, by decide +kernel⟩, List.mem_of_getElem? (i := 546) (by decide +kernel), List.mem_of_getElem? (i := 635) (by decide +kernel), List.mem_of_getElem? (i := 636) (by decide +kernel)⟩
theorem lw_p24 : lw_okq (⟨"BallBoxesModel", "goes", "(IZ)I"⟩, 22) := ⟨⟨by decide +kernel, by decide +kernel⟩, List.mem_of_getElem? (i := 546) (by decide +kernel), List.mem_of_getElem? (i := 643) (by decide +kernel), List.mem_of_getElem? (i := 644) (by decide +kernel)⟩
theorem lw_p25 : lw_okq (⟨"BallBoxesModel", "takes", "()I"⟩, 22) := ⟨⟨by decide +kernel, by decide +kernel⟩, List.mem_of_getElem? (i := 546) (by decide +kernel), List.mem_of_getElem? (i := 647) (by decide +kernel), List.mem_of_getElem? (i := 648) (by decide +kernel)⟩
theorem lw_p26 : lw_okq (⟨"BallBoxesModel", "pairRounds", "()I"⟩, 22) := ⟨⟨by decide +kernel, by decide +kernel⟩, List.mem_of_getElem? (i := 546) (by decide +kernel), List.mem_of_getElem? (i := 663) (by decide +kernel), List.mem_of_getElem? (i := 664) (by decide +kernel)⟩
theorem lw_p27 : lw_okq (⟨"BallBoxesModel", "reads", "(I)V"⟩, 22) := ⟨⟨by decide +kernel, by decide +kernel⟩, List.mem_of_getElem? (i := 546) (by decide +kernel), List.mem_of_getElem? (i := 675) (by decide +kernel), List.mem_of_getElem? (i := 676) (by decide +kernel)⟩
theorem lw_p28 : lw_okq (⟨"BallBoxesModel", "tight", "(IZ)I"⟩, 22) := ⟨⟨by decide +kernel, by decide +kernel⟩, List.mem_of_getElem? (i := 546) (by decide +kernel), List.mem_of_getElem? (i := 679) (by decide +kernel), List.mem_of_getElem? (i := 680) (by decide +kernel)⟩
theorem lw_p29 : lw_okq (⟨"BallBoxesModel", "room", "(II)I"⟩, 22) := ⟨⟨by decide +kernel, by decide +kernel⟩, List.mem_of_getElem? (i := 546) (by decide +kernel), List.mem_of_getElem? (i := 683) (by decide +kernel), List.mem_of_getElem? (i := 684) (by decide +kernel)⟩
theorem lw_p30 : lw_okq (⟨"BallBoxesModel", "makes", "()Z"⟩, 22) := ⟨⟨by decide +kernel, by decide +kernel⟩, List.mem_of_getElem? (i := 546) (by decide +kernel), List.mem_of_getElem? (i := 695) (by decide +kernel), List.mem_of_getElem? (i := 696) (by decide +kernel)⟩
theorem lw_p31 : lw_okq (⟨"BallBoxesModel", "drops", "(I)V"⟩, 22) := ⟨⟨by decide +kernel, by decide +kernel⟩, List.mem_of_getElem? (i := 546) (by decide +kernel), List.mem_of_getElem? (i := 699) (by decide +kernel), List.mem_of_getElem? (i := 700) (by decide +kernel)⟩
def lw_privs_2 : List (MethodName × Nat) := [(⟨"BallBoxes$RingTrial", "isSeen", "(I)Z"⟩, 2), (⟨"BallBoxes$RingTrial", "goThrough", "(III)I"⟩, 2), (⟨"BallBoxes$RingTrial", "see", "(I)V"⟩, 2), (⟨"BallBoxes", "sheetOf", "(I)LBallBoxes$Sheet;"⟩, 9), (⟨"BallBoxes", "find", "(I)I"⟩, 9), (⟨"BallBoxes$Sheet", "isItem", "(I)Z"⟩, 4), (⟨"BallBoxes$Sheet", "cut", "(I)I"⟩, 4), (⟨"BallBoxesModel", "balls", "()I"⟩, 22), (⟨"BallBoxesModel", "goes", "(IZ)I"⟩, 22), (⟨"BallBoxesModel", "takes", "()I"⟩, 22), (⟨"BallBoxesModel", "pairRounds", "()I"⟩, 22), (⟨"BallBoxesModel", "reads", "(I)V"⟩, 22), (⟨"BallBoxesModel", "tight", "(IZ)I"⟩, 22), (⟨"BallBoxesModel", "room", "(II)I"⟩, 22), (⟨"BallBoxesModel", "makes", "()Z"⟩, 22), (⟨"BallBoxesModel", "drops", "(I)V"⟩, 22)]
theorem lw_r2 : ∀ q ∈ lw_privs_2, lw_okq q := List.forall_mem_cons.mpr ⟨lw_p16, List.forall_mem_cons.mpr ⟨lw_p17, List.forall_mem_cons.mpr ⟨lw_p18, List.forall_mem_cons.mpr ⟨lw_p19, List.forall_mem_cons.mpr ⟨lw_p20, List.forall_mem_cons.mpr ⟨lw_p21, List.forall_mem_cons.mpr ⟨lw_p22, List.forall_mem_cons.mpr ⟨lw_p23, List.forall_mem_cons.mpr ⟨lw_p24, List.forall_mem_cons.mpr ⟨lw_p25, List.forall_mem_cons.mpr ⟨lw_p26, List.forall_mem_cons.mpr ⟨lw_p27, List.forall_mem_cons.mpr ⟨lw_p28, List.forall_mem_cons.mpr ⟨lw_p29, List.forall_mem_cons.mpr ⟨lw_p30, List.forall_mem_cons.mpr ⟨lw_p31, fun _ h => absurd h List.not_mem_nil⟩⟩⟩⟩⟩⟩⟩⟩⟩⟩⟩⟩⟩⟩⟩⟩
theorem lw_p32 : lw_okq (⟨"BallBoxesModel", "turns", "(I)I"⟩, 22) := ⟨⟨by decide +kernel, by decide +kernel⟩, List.mem_of_getElem? (i := 546) (by decide +kernel), List.mem_of_getElem? (i := 715) (by decide +kernel), List.mem_of_getElem? (i := 716) (by decide +kernel)⟩
theorem lw_p33 : lw_okq (⟨"BallBoxesModel", "periodOf", "(I)I"⟩, 22) := ⟨⟨by decide +kernel, by decide +kernel⟩, List.mem_of_getElem? (i := 546) (by decide +kernel), List.mem_of_getElem? (i := 723) (by decide +kernel), List.mem_of_getElem? (i := 724) (by decide +kernel)⟩
theorem lw_p34 : lw_okq (⟨"BallBoxesModel", "isAsWas", "()Z"⟩, 22) := ⟨⟨by decide +kernel, by decide +kernel⟩, List.mem_of_getElem? (i := 546) (by decide +kernel), List.mem_of_getElem? (i := 727) (by decide +kernel), List.mem_of_getElem? (i := 728) (by decide +kernel)⟩
theorem lw_p35 : lw_okq (⟨"BallBoxesModel", "meets", "(I)I"⟩, 22) := ⟨⟨by decide +kernel, by decide +kernel⟩, List.mem_of_getElem? (i := 546) (by decide +kernel), List.mem_of_getElem? (i := 743) (by decide +kernel), List.mem_of_getElem? (i := 744) (by decide +kernel)⟩
theorem lw_p36 : lw_okq (⟨"BallBoxesModel", "lacks", "(III)I"⟩, 22) := ⟨⟨by decide +kernel, by decide +kernel⟩, List.mem_of_getElem? (i := 546) (by decide +kernel), List.mem_of_getElem? (i := 755) (by decide +kernel), List.mem_of_getElem? (i := 756) (by decide +kernel)⟩
theorem lw_p37 : lw_okq (⟨"BallBoxesModel", "ringBalls", "()I"⟩, 22) := ⟨⟨by decide +kernel, by decide +kernel⟩, List.mem_of_getElem? (i := 546) (by decide +kernel), List.mem_of_getElem? (i := 780) (by decide +kernel), List.mem_of_getElem? (i := 781) (by decide +kernel)⟩
def lw_privs_3 : List (MethodName × Nat) := [(⟨"BallBoxesModel", "turns", "(I)I"⟩, 22), (⟨"BallBoxesModel", "periodOf", "(I)I"⟩, 22), (⟨"BallBoxesModel", "isAsWas", "()Z"⟩, 22), (⟨"BallBoxesModel", "meets", "(I)I"⟩, 22), (⟨"BallBoxesModel", "lacks", "(III)I"⟩, 22), (⟨"BallBoxesModel", "ringBalls", "()I"⟩, 22)]
theorem lw_r3 : ∀ q ∈ lw_privs_3, lw_okq q := List.forall_mem_cons.mpr ⟨lw_p32, List.forall_mem_cons.mpr ⟨lw_p33, List.forall_mem_cons.mpr ⟨lw_p34, List.forall_mem_cons.mpr ⟨lw_p35, List.forall_mem_cons.mpr ⟨lw_p36, List.forall_mem_cons.mpr ⟨lw_p37, fun _ h => absurd h List.not_mem_nil⟩⟩⟩⟩⟩⟩
def lw_privs : List (MethodName × Nat) := lw_privs_1 ++ (lw_privs_2 ++ (lw_privs_3))
def lw_tbl : List Cond := k2_sels lw_privs ++ tables_1
theorem lw_privs_ok : ∀ q ∈ lw_privs, lw_okq q := by
  show ∀ q ∈ lw_privs_1 ++ (lw_privs_2 ++ (lw_privs_3)), lw_okq q
  exact List.forall_mem_append.mpr ⟨lw_r1, List.forall_mem_append.mpr ⟨lw_r2, lw_r3⟩⟩
end
section
/-! ===== BEGIN words of one list among another's, by their places ===== -/
theorem goodIn_r {big : List Cond} (ws : List Cond) (ps : List Nat) (hp : ws = ps.filterMap (fun i => big[i]?)) (h : ws.all goodWord = true) : GoodIn big ws := by
  intro w hw
  have h1 := List.all_eq_true.mp h w hw
  rw [hp] at hw
  obtain ⟨i, -, hi⟩ := List.mem_filterMap.mp hw
  have hm : w ∈ big := by first | exact List.mem_of_getElem? hi | exact List.getElem?_mem hi
  exact ⟨hm, good_of_word h1⟩
theorem goodIn_app {big a b : List Cond} (ha : GoodIn big a) (hb : GoodIn big b) : GoodIn big (a ++ b) := fun w h => (List.mem_append.mp h).elim (ha w) (hb w)
theorem goodIn_ca {big a b : List Cond} {c : Cond} (ha : GoodIn big (c :: a)) (hb : GoodIn big b) : GoodIn big (c :: (a ++ b)) := fun w h => (List.mem_cons.mp h).elim (fun e => ha w (List.mem_cons.mpr (Or.inl e))) (fun h => (List.mem_append.mp h).elim (fun h => ha w (List.mem_cons.mpr (Or.inr h))) (hb w))
theorem goodIn_sub {big ws : List Cond} (hm : ∀ w ∈ ws, w ∈ big) (h : ws.all goodWord = true) : GoodIn big ws := fun w hw => ⟨hm w hw, good_of_word (List.all_eq_true.mp h w hw)⟩
/-! ===== END ===== -/

/-! ===== BEGIN printed: names, fields, word lists, decode rows ===== -/
def RX0 : String := "BallBoxes$Pairs"
def TX0 : u_T := fun k => match k with
  | 0 => ("BallBoxes$Pairs", "left", "[I", true)
  | _ => ("BallBoxes$Pairs", "size", "I", false)
def tyX0 : Nat → FieldType := fun k => match k with
  | 0 => .array .int
  | _ => .int
abbrev wsX00 : List Cond := u_ws RX0 TX0 2
theorem nmX0 : ∀ a, a < 2 → ∀ b, b < 2 → a ≠ b → (TX0 a).2.1 ≠ (TX0 b).2.1 := by decide +kernel
theorem tyX0_ok : ∀ k, k < 2 → parseFieldDescriptor (TX0 k).2.2.1 = some (tyX0 k) := by decide +kernel
abbrev cX0_init : ByteArray := prog_2_method_1_code
def yX0_init : MethodName := ⟨RX0, "<init>", "()V"⟩
abbrev cX0_heapsOf : ByteArray := prog_2_method_2_code
def yX0_heapsOf : MethodName := ⟨RX0, "heapsOf", "(LBallBoxes$Row;)I"⟩
abbrev cX0_countsAbove : ByteArray := prog_2_method_3_code
def yX0_countsAbove : MethodName := ⟨RX0, "countsAbove", "(LBallBoxes$Row;I)I"⟩
abbrev cX0_begin : ByteArray := prog_2_method_4_code
def yX0_begin : MethodName := ⟨RX0, "begin", "(LBallBoxes$Row;)V"⟩
abbrev cX0_takeOut : ByteArray := prog_2_method_5_code
def yX0_takeOut : MethodName := ⟨RX0, "takeOut", "()I"⟩
def RX1 : String := "BallBoxes$Ring"
def TX1 : u_T := fun k => match k with
  | 0 => ("BallBoxes$Ring", "size", "I", false)
  | 1 => ("BallBoxes$Ring", "bits", "J", false)
  | 2 => ("BallBoxes$Ring", "made", "J", false)
  | _ => ("BallBoxes$Ring", "carrierHas", "I", false)
def tyX1 : Nat → FieldType := fun k => match k with
  | 0 => .int
  | 1 => .long
  | 2 => .long
  | _ => .int
abbrev wsX10 : List Cond := u_ws RX1 TX1 4
theorem nmX1 : ∀ a, a < 4 → ∀ b, b < 4 → a ≠ b → (TX1 a).2.1 ≠ (TX1 b).2.1 := by decide +kernel
theorem tyX1_ok : ∀ k, k < 4 → parseFieldDescriptor (TX1 k).2.2.1 = some (tyX1 k) := by decide +kernel
abbrev cX1_init : ByteArray := prog_3_method_1_code
def yX1_init : MethodName := ⟨RX1, "<init>", "()V"⟩
abbrev cX1_become : ByteArray := prog_3_method_2_code
def yX1_become : MethodName := ⟨RX1, "become", "(IJ)V"⟩
abbrev cX1_isRingBox : ByteArray := prog_3_method_3_code
def yX1_isRingBox : MethodName := ⟨RX1, "isRingBox", "(I)Z"⟩
abbrev cX1_ballAt : ByteArray := prog_3_method_4_code
def yX1_ballAt : MethodName := ⟨RX1, "ballAt", "(I)I"⟩
abbrev cX1_turnBy : ByteArray := prog_3_method_5_code
def yX1_turnBy : MethodName := ⟨RX1, "turnBy", "(I)I"⟩
abbrev cX1_goRound : ByteArray := prog_3_method_6_code
def yX1_goRound : MethodName := ⟨RX1, "goRound", "(II)V"⟩
def RX2 : String := "BallBoxes$RingTrial"
def TX2 : u_T := fun k => match k with
  | 0 => ("BallBoxes$RingTrial", "ring", "LBallBoxes$Ring;", true)
  | _ => ("BallBoxes$RingTrial", "seen", "[J", true)
def tyX2 : Nat → FieldType := fun k => match k with
  | 0 => .object "BallBoxes$Ring"
  | _ => .array .long
abbrev wsX20 : List Cond := u_ws RX2 TX2 2
theorem nmX2 : ∀ a, a < 2 → ∀ b, b < 2 → a ≠ b → (TX2 a).2.1 ≠ (TX2 b).2.1 := by decide +kernel
theorem tyX2_ok : ∀ k, k < 2 → parseFieldDescriptor (TX2 k).2.2.1 = some (tyX2 k) := by decide +kernel
abbrev cX2_init : ByteArray := prog_4_method_1_code
def yX2_init : MethodName := ⟨RX2, "<init>", "()V"⟩
abbrev cX2_periodOf : ByteArray := prog_4_method_2_code
def yX2_periodOf : MethodName := ⟨RX2, "periodOf", "(LBallBoxes$Ring;I)I"⟩
abbrev cX2_countAll : ByteArray := prog_4_method_3_code
def yX2_countAll : MethodName := ⟨RX2, "countAll", "(II)I"⟩
abbrev cX2_countWithPeriod : ByteArray := prog_4_method_4_code
def yX2_countWithPeriod : MethodName := ⟨RX2, "countWithPeriod", "(IIII)I"⟩
abbrev cX2_goThrough : ByteArray := prog_4_method_5_code
def yX2_goThrough : MethodName := ⟨RX2, "goThrough", "(III)I"⟩
abbrev cX2_forget : ByteArray := prog_4_method_6_code
def yX2_forget : MethodName := ⟨RX2, "forget", "()V"⟩
abbrev cX2_isSeen : ByteArray := prog_4_method_7_code
def yX2_isSeen : MethodName := ⟨RX2, "isSeen", "(I)Z"⟩
abbrev cX2_see : ByteArray := prog_4_method_8_code
def yX2_see : MethodName := ⟨RX2, "see", "(I)V"⟩
def RX3 : String := "BallBoxes$Row"
def TX3 : u_T := fun k => match k with
  | 0 => ("BallBoxes$Row", "boxes", "[I", true)
  | _ => ("BallBoxes$Row", "made", "[I", true)
def tyX3 : Nat → FieldType := fun k => match k with
  | 0 => .array .int
  | _ => .array .int
abbrev wsX30 : List Cond := u_ws RX3 TX3 2
theorem nmX3 : ∀ a, a < 2 → ∀ b, b < 2 → a ≠ b → (TX3 a).2.1 ≠ (TX3 b).2.1 := by decide +kernel
theorem tyX3_ok : ∀ k, k < 2 → parseFieldDescriptor (TX3 k).2.2.1 = some (tyX3 k) := by decide +kernel
abbrev cX3_init : ByteArray := prog_5_method_1_code
def yX3_init : MethodName := ⟨RX3, "<init>", "()V"⟩
abbrev cX3_ballAt : ByteArray := prog_5_method_2_code
def yX3_ballAt : MethodName := ⟨RX3, "ballAt", "(I)I"⟩
abbrev cX3_place : ByteArray := prog_5_method_3_code
def yX3_place : MethodName := ⟨RX3, "place", "(II)V"⟩
abbrev cX3_makeBox : ByteArray := prog_5_method_4_code
def yX3_makeBox : MethodName := ⟨RX3, "makeBox", "(II)V"⟩
abbrev cX3_clear : ByteArray := prog_5_method_5_code
def yX3_clear : MethodName := ⟨RX3, "clear", "()V"⟩
abbrev cX3_balls : ByteArray := prog_5_method_6_code
def yX3_balls : MethodName := ⟨RX3, "balls", "()I"⟩
abbrev cX3_firstBall : ByteArray := prog_5_method_7_code
def yX3_firstBall : MethodName := ⟨RX3, "firstBall", "()I"⟩
abbrev cX3_lastBall : ByteArray := prog_5_method_8_code
def yX3_lastBall : MethodName := ⟨RX3, "lastBall", "()I"⟩
abbrev cX3_bits : ByteArray := prog_5_method_9_code
def yX3_bits : MethodName := ⟨RX3, "bits", "(II)J"⟩
abbrev cX3_takenBy : ByteArray := prog_5_method_10_code
def yX3_takenBy : MethodName := ⟨RX3, "takenBy", "(I)I"⟩
abbrev cX3_makeByCarrier : ByteArray := prog_5_method_11_code
def yX3_makeByCarrier : MethodName := ⟨RX3, "makeByCarrier", "(IZ)I"⟩
abbrev cX3_becomeMade : ByteArray := prog_5_method_12_code
def yX3_becomeMade : MethodName := ⟨RX3, "becomeMade", "()I"⟩
def RX4 : String := "BallBoxes$Sheet"
def TX4 : u_T := fun k => match k with
  | 0 => ("BallBoxes$Sheet", "items", "[I", true)
  | 1 => ("BallBoxes$Sheet", "lost", "Z", false)
  | 2 => ("BallBoxes$Sheet", "form", "I", false)
  | _ => ("BallBoxes$Sheet", "size", "I", false)
def tyX4 : Nat → FieldType := fun k => match k with
  | 0 => .array .int
  | 1 => .boolean
  | 2 => .int
  | _ => .int
abbrev wsX40 : List Cond := u_ws RX4 TX4 4
theorem nmX4 : ∀ a, a < 4 → ∀ b, b < 4 → a ≠ b → (TX4 a).2.1 ≠ (TX4 b).2.1 := by decide +kernel
theorem tyX4_ok : ∀ k, k < 4 → parseFieldDescriptor (TX4 k).2.2.1 = some (tyX4 k) := by decide +kernel
abbrev cX4_init : ByteArray := prog_6_method_1_code
def yX4_init : MethodName := ⟨RX4, "<init>", "()V"⟩
abbrev cX4_begin : ByteArray := prog_6_method_2_code
def yX4_begin : MethodName := ⟨RX4, "begin", "(II)V"⟩
abbrev cX4_findingAt : ByteArray := prog_6_method_3_code
def yX4_findingAt : MethodName := ⟨RX4, "findingAt", "(II)I"⟩
abbrev cX4_hasItems : ByteArray := prog_6_method_4_code
def yX4_hasItems : MethodName := ⟨RX4, "hasItems", "(II)Z"⟩
abbrev cX4_itemAt : ByteArray := prog_6_method_5_code
def yX4_itemAt : MethodName := ⟨RX4, "itemAt", "(I)I"⟩
abbrev cX4_place : ByteArray := prog_6_method_6_code
def yX4_place : MethodName := ⟨RX4, "place", "(II)V"⟩
abbrev cX4_isItem : ByteArray := prog_6_method_7_code
def yX4_isItem : MethodName := ⟨RX4, "isItem", "(I)Z"⟩
abbrev cX4_cut : ByteArray := prog_6_method_8_code
def yX4_cut : MethodName := ⟨RX4, "cut", "(I)I"⟩
def RX5 : String := "BallBoxes$Strings"
def TX5 : u_T := fun k => match k with
  | 0 => ("BallBoxes$Strings", "lengths", "[I", true)
  | 1 => ("BallBoxes$Strings", "riggings", "[I", true)
  | 2 => ("BallBoxes$Strings", "lesserSums", "[I", true)
  | 3 => ("BallBoxes$Strings", "size", "I", false)
  | _ => ("BallBoxes$Strings", "boxesRead", "I", false)
def tyX5 : Nat → FieldType := fun k => match k with
  | 0 => .array .int
  | 1 => .array .int
  | 2 => .array .int
  | 3 => .int
  | _ => .int
abbrev wsX50 : List Cond := u_ws RX5 TX5 5
theorem nmX5 : ∀ a, a < 5 → ∀ b, b < 5 → a ≠ b → (TX5 a).2.1 ≠ (TX5 b).2.1 := by decide +kernel
theorem tyX5_ok : ∀ k, k < 5 → parseFieldDescriptor (TX5 k).2.2.1 = some (tyX5 k) := by decide +kernel
abbrev cX5_init : ByteArray := prog_7_method_1_code
def yX5_init : MethodName := ⟨RX5, "<init>", "()V"⟩
abbrev cX5_isString : ByteArray := prog_7_method_2_code
def yX5_isString : MethodName := ⟨RX5, "isString", "(I)Z"⟩
abbrev cX5_lengthOf : ByteArray := prog_7_method_3_code
def yX5_lengthOf : MethodName := ⟨RX5, "lengthOf", "(I)I"⟩
abbrev cX5_riggingOf : ByteArray := prog_7_method_4_code
def yX5_riggingOf : MethodName := ⟨RX5, "riggingOf", "(I)I"⟩
abbrev cX5_roomLeft : ByteArray := prog_7_method_5_code
def yX5_roomLeft : MethodName := ⟨RX5, "roomLeft", "(II)I"⟩
abbrev cX5_readFrom : ByteArray := prog_7_method_6_code
def yX5_readFrom : MethodName := ⟨RX5, "readFrom", "(LBallBoxes$Row;I)V"⟩
abbrev cX5_makeInto : ByteArray := prog_7_method_7_code
def yX5_makeInto : MethodName := ⟨RX5, "makeInto", "(LBallBoxes$Row;)Z"⟩
abbrev cX5_addToRiggings : ByteArray := prog_7_method_8_code
def yX5_addToRiggings : MethodName := ⟨RX5, "addToRiggings", "(II)V"⟩
abbrev cX5_haveRoomBehind : ByteArray := prog_7_method_9_code
def yX5_haveRoomBehind : MethodName := ⟨RX5, "haveRoomBehind", "(I)Z"⟩
abbrev cX5_sort : ByteArray := prog_7_method_10_code
def yX5_sort : MethodName := ⟨RX5, "sort", "()V"⟩
abbrev cX5_clear : ByteArray := prog_7_method_11_code
def yX5_clear : MethodName := ⟨RX5, "clear", "()V"⟩
abbrev cX5_takeBall : ByteArray := prog_7_method_12_code
def yX5_takeBall : MethodName := ⟨RX5, "takeBall", "(I)V"⟩
abbrev cX5_giveBall : ByteArray := prog_7_method_13_code
def yX5_giveBall : MethodName := ⟨RX5, "giveBall", "(I)I"⟩
abbrev cX5_addToSums : ByteArray := prog_7_method_14_code
def yX5_addToSums : MethodName := ⟨RX5, "addToSums", "(II)V"⟩
abbrev cX5_isTight : ByteArray := prog_7_method_15_code
def yX5_isTight : MethodName := ⟨RX5, "isTight", "(II)Z"⟩
abbrev cX5_longestTight : ByteArray := prog_7_method_16_code
def yX5_longestTight : MethodName := ⟨RX5, "longestTight", "(I)I"⟩
abbrev cX5_shortestTight : ByteArray := prog_7_method_17_code
def yX5_shortestTight : MethodName := ⟨RX5, "shortestTight", "(I)I"⟩
abbrev cX5_addString : ByteArray := prog_7_method_18_code
def yX5_addString : MethodName := ⟨RX5, "addString", "()I"⟩
abbrev cX5_removeString : ByteArray := prog_7_method_19_code
def yX5_removeString : MethodName := ⟨RX5, "removeString", "(I)V"⟩
abbrev cX5_isBehind : ByteArray := prog_7_method_20_code
def yX5_isBehind : MethodName := ⟨RX5, "isBehind", "(II)Z"⟩
abbrev cX5_swap : ByteArray := prog_7_method_21_code
def yX5_swap : MethodName := ⟨RX5, "swap", "(II)V"⟩
def RX6 : String := "BallBoxes"
def TX6 : u_T := fun k => match k with
  | 0 => ("BallBoxes", "theRow", "LBallBoxes$Row;", true)
  | 1 => ("BallBoxes", "pairs", "LBallBoxes$Pairs;", true)
  | 2 => ("BallBoxes", "latestStrings", "LBallBoxes$Strings;", true)
  | 3 => ("BallBoxes", "leapStrings", "LBallBoxes$Strings;", true)
  | 4 => ("BallBoxes", "theRing", "LBallBoxes$Ring;", true)
  | 5 => ("BallBoxes", "trial", "LBallBoxes$RingTrial;", true)
  | 6 => ("BallBoxes", "sheets", "[LBallBoxes$Sheet;", true)
  | 7 => ("BallBoxes", "moves", "I", false)
  | _ => ("BallBoxes", "latestFinding", "I", false)
def tyX6 : Nat → FieldType := fun k => match k with
  | 0 => .object "BallBoxes$Row"
  | 1 => .object "BallBoxes$Pairs"
  | 2 => .object "BallBoxes$Strings"
  | 3 => .object "BallBoxes$Strings"
  | 4 => .object "BallBoxes$Ring"
  | 5 => .object "BallBoxes$RingTrial"
  | 6 => .array (.object "BallBoxes$Sheet")
  | 7 => .int
  | _ => .int
abbrev wsX60 : List Cond := u_ws RX6 TX6 9
theorem nmX6 : ∀ a, a < 9 → ∀ b, b < 9 → a ≠ b → (TX6 a).2.1 ≠ (TX6 b).2.1 := by decide +kernel
theorem tyX6_ok : ∀ k, k < 9 → parseFieldDescriptor (TX6 k).2.2.1 = some (tyX6 k) := by decide +kernel
abbrev cX6_init : ByteArray := prog_1_method_1_code
def yX6_init : MethodName := ⟨RX6, "<init>", "()V"⟩
abbrev cX6_set : ByteArray := prog_1_method_2_code
def yX6_set : MethodName := ⟨RX6, "set", "(IZ)I"⟩
abbrev cX6_at : ByteArray := prog_1_method_3_code
def yX6_at : MethodName := ⟨RX6, "at", "(I)I"⟩
abbrev cX6_empty : ByteArray := prog_1_method_4_code
def yX6_empty : MethodName := ⟨RX6, "empty", "()I"⟩
abbrev cX6_step : ByteArray := prog_1_method_5_code
def yX6_step : MethodName := ⟨RX6, "step", "(I)I"⟩
abbrev cX6_back : ByteArray := prog_1_method_6_code
def yX6_back : MethodName := ⟨RX6, "back", "(I)I"⟩
abbrev cX6_kept : ByteArray := prog_1_method_7_code
def yX6_kept : MethodName := ⟨RX6, "kept", "(I)I"⟩
abbrev cX6_row : ByteArray := prog_1_method_8_code
def yX6_row : MethodName := ⟨RX6, "row", "(I)I"⟩
abbrev cX6_heap : ByteArray := prog_1_method_9_code
def yX6_heap : MethodName := ⟨RX6, "heap", "(I)I"⟩
abbrev cX6_strings : ByteArray := prog_1_method_10_code
def yX6_strings : MethodName := ⟨RX6, "strings", "(I)I"⟩
abbrev cX6_string : ByteArray := prog_1_method_11_code
def yX6_string : MethodName := ⟨RX6, "string", "(II)I"⟩
abbrev cX6_leap : ByteArray := prog_1_method_12_code
def yX6_leap : MethodName := ⟨RX6, "leap", "(II)I"⟩
abbrev cX6_ring : ByteArray := prog_1_method_13_code
def yX6_ring : MethodName := ⟨RX6, "ring", "(II)I"⟩
abbrev cX6_ringAt : ByteArray := prog_1_method_14_code
def yX6_ringAt : MethodName := ⟨RX6, "ringAt", "(I)I"⟩
abbrev cX6_turn : ByteArray := prog_1_method_15_code
def yX6_turn : MethodName := ⟨RX6, "turn", "(I)I"⟩
abbrev cX6_period : ByteArray := prog_1_method_16_code
def yX6_period : MethodName := ⟨RX6, "period", "(I)I"⟩
abbrev cX6_rings : ByteArray := prog_1_method_17_code
def yX6_rings : MethodName := ⟨RX6, "rings", "(IIII)I"⟩
abbrev cX6_sheet : ByteArray := prog_1_method_18_code
def yX6_sheet : MethodName := ⟨RX6, "sheet", "(III)I"⟩
abbrev cX6_lose : ByteArray := prog_1_method_19_code
def yX6_lose : MethodName := ⟨RX6, "lose", "(I)I"⟩
abbrev cX6_put : ByteArray := prog_1_method_20_code
def yX6_put : MethodName := ⟨RX6, "put", "(IIII)I"⟩
abbrev cX6_get : ByteArray := prog_1_method_21_code
def yX6_get : MethodName := ⟨RX6, "get", "(III)I"⟩
abbrev cX6_copy : ByteArray := prog_1_method_22_code
def yX6_copy : MethodName := ⟨RX6, "copy", "(IIIII)I"⟩
abbrev cX6_load : ByteArray := prog_1_method_23_code
def yX6_load : MethodName := ⟨RX6, "load", "(II)I"⟩
abbrev cX6_write : ByteArray := prog_1_method_24_code
def yX6_write : MethodName := ⟨RX6, "write", "(II)I"⟩
abbrev cX6_count : ByteArray := prog_1_method_25_code
def yX6_count : MethodName := ⟨RX6, "count", "(I)I"⟩
abbrev cX6_digest : ByteArray := prog_1_method_26_code
def yX6_digest : MethodName := ⟨RX6, "digest", "()J"⟩
abbrev cX6_isBox : ByteArray := prog_1_method_27_code
def yX6_isBox : MethodName := ⟨RX6, "isBox", "(I)Z"⟩
abbrev cX6_isRoom : ByteArray := prog_1_method_28_code
def yX6_isRoom : MethodName := ⟨RX6, "isRoom", "(I)Z"⟩
abbrev cX6_isForm : ByteArray := prog_1_method_29_code
def yX6_isForm : MethodName := ⟨RX6, "isForm", "(I)Z"⟩
abbrev cX6_isFewerThanHalf : ByteArray := prog_1_method_30_code
def yX6_isFewerThanHalf : MethodName := ⟨RX6, "isFewerThanHalf", "(II)Z"⟩
abbrev cX6_loadBehind : ByteArray := prog_1_method_31_code
def yX6_loadBehind : MethodName := ⟨RX6, "loadBehind", "(III)I"⟩
abbrev cX6_carry : ByteArray := prog_1_method_32_code
def yX6_carry : MethodName := ⟨RX6, "carry", "(IZ)I"⟩
abbrev cX6_sheetOf : ByteArray := prog_1_method_33_code
def yX6_sheetOf : MethodName := ⟨RX6, "sheetOf", "(I)LBallBoxes$Sheet;"⟩
abbrev cX6_find : ByteArray := prog_1_method_34_code
def yX6_find : MethodName := ⟨RX6, "find", "(I)I"⟩
def RX7 : String := "BallBoxesModel"
def TX7 : u_T := fun k => match k with
  | 0 => ("BallBoxesModel", "boxes", "[Z", true)
  | 1 => ("BallBoxesModel", "next", "[Z", true)
  | 2 => ("BallBoxesModel", "done", "I", false)
  | 3 => ("BallBoxesModel", "left", "[Z", true)
  | 4 => ("BallBoxesModel", "pairs", "[I", true)
  | 5 => ("BallBoxesModel", "many", "I", false)
  | 6 => ("BallBoxesModel", "lengths", "[I", true)
  | 7 => ("BallBoxesModel", "riggings", "[I", true)
  | 8 => ("BallBoxesModel", "told", "I", false)
  | 9 => ("BallBoxesModel", "toldLength", "[I", true)
  | 10 => ("BallBoxesModel", "toldRigging", "[I", true)
  | 11 => ("BallBoxesModel", "toldRoom", "[I", true)
  | 12 => ("BallBoxesModel", "ringN", "I", false)
  | 13 => ("BallBoxesModel", "ring", "[Z", true)
  | 14 => ("BallBoxesModel", "was", "[Z", true)
  | 15 => ("BallBoxesModel", "saved", "[Z", true)
  | 16 => ("BallBoxesModel", "isThere", "[Z", true)
  | 17 => ("BallBoxesModel", "forms", "[I", true)
  | 18 => ("BallBoxesModel", "sizes", "[I", true)
  | 19 => ("BallBoxesModel", "items", "[I", true)
  | 20 => ("BallBoxesModel", "moved", "[I", true)
  | _ => ("BallBoxesModel", "finding", "I", false)
def tyX7 : Nat → FieldType := fun k => match k with
  | 0 => .array .boolean
  | 1 => .array .boolean
  | 2 => .int
  | 3 => .array .boolean
  | 4 => .array .int
  | 5 => .int
  | 6 => .array .int
  | 7 => .array .int
  | 8 => .int
  | 9 => .array .int
  | 10 => .array .int
  | 11 => .array .int
  | 12 => .int
  | 13 => .array .boolean
  | 14 => .array .boolean
  | 15 => .array .boolean
  | 16 => .array .boolean
  | 17 => .array .int
  | 18 => .array .int
  | 19 => .array .int
  | 20 => .array .int
  | _ => .int
abbrev wsX70 : List Cond := u_ws RX7 TX7 22
theorem nmX7 : ∀ a, a < 22 → ∀ b, b < 22 → a ≠ b → (TX7 a).2.1 ≠ (TX7 b).2.1 := by decide +kernel
theorem tyX7_ok : ∀ k, k < 22 → parseFieldDescriptor (TX7 k).2.2.1 = some (tyX7 k) := by decide +kernel
abbrev cX7_init : ByteArray := prog_9_method_1_code
def yX7_init : MethodName := ⟨RX7, "<init>", "()V"⟩
abbrev cX7_in : ByteArray := prog_9_method_3_code
def yX7_in : MethodName := ⟨RX7, "in", "(III)Z"⟩
abbrev cX7_set : ByteArray := prog_9_method_4_code
def yX7_set : MethodName := ⟨RX7, "set", "(IZ)I"⟩
abbrev cX7_at : ByteArray := prog_9_method_5_code
def yX7_at : MethodName := ⟨RX7, "at", "(I)I"⟩
abbrev cX7_balls : ByteArray := prog_9_method_6_code
def yX7_balls : MethodName := ⟨RX7, "balls", "()I"⟩
abbrev cX7_empty : ByteArray := prog_9_method_7_code
def yX7_empty : MethodName := ⟨RX7, "empty", "()I"⟩
abbrev cX7_takes : ByteArray := prog_9_method_8_code
def yX7_takes : MethodName := ⟨RX7, "takes", "()I"⟩
abbrev cX7_goes : ByteArray := prog_9_method_9_code
def yX7_goes : MethodName := ⟨RX7, "goes", "(IZ)I"⟩
abbrev cX7_step : ByteArray := prog_9_method_10_code
def yX7_step : MethodName := ⟨RX7, "step", "(I)I"⟩
abbrev cX7_back : ByteArray := prog_9_method_11_code
def yX7_back : MethodName := ⟨RX7, "back", "(I)I"⟩
abbrev cX7_kept : ByteArray := prog_9_method_12_code
def yX7_kept : MethodName := ⟨RX7, "kept", "(I)I"⟩
abbrev cX7_pairRounds : ByteArray := prog_9_method_13_code
def yX7_pairRounds : MethodName := ⟨RX7, "pairRounds", "()I"⟩
abbrev cX7_row : ByteArray := prog_9_method_14_code
def yX7_row : MethodName := ⟨RX7, "row", "(I)I"⟩
abbrev cX7_heap : ByteArray := prog_9_method_15_code
def yX7_heap : MethodName := ⟨RX7, "heap", "(I)I"⟩
abbrev cX7_room : ByteArray := prog_9_method_16_code
def yX7_room : MethodName := ⟨RX7, "room", "(II)I"⟩
abbrev cX7_tight : ByteArray := prog_9_method_17_code
def yX7_tight : MethodName := ⟨RX7, "tight", "(IZ)I"⟩
abbrev cX7_reads : ByteArray := prog_9_method_18_code
def yX7_reads : MethodName := ⟨RX7, "reads", "(I)V"⟩
abbrev cX7_drops : ByteArray := prog_9_method_19_code
def yX7_drops : MethodName := ⟨RX7, "drops", "(I)V"⟩
abbrev cX7_makes : ByteArray := prog_9_method_20_code
def yX7_makes : MethodName := ⟨RX7, "makes", "()Z"⟩
abbrev cX7_strings : ByteArray := prog_9_method_21_code
def yX7_strings : MethodName := ⟨RX7, "strings", "(I)I"⟩
abbrev cX7_string : ByteArray := prog_9_method_22_code
def yX7_string : MethodName := ⟨RX7, "string", "(II)I"⟩
abbrev cX7_leap : ByteArray := prog_9_method_23_code
def yX7_leap : MethodName := ⟨RX7, "leap", "(II)I"⟩
abbrev cX7_ringBalls : ByteArray := prog_9_method_24_code
def yX7_ringBalls : MethodName := ⟨RX7, "ringBalls", "()I"⟩
abbrev cX7_ring : ByteArray := prog_9_method_25_code
def yX7_ring : MethodName := ⟨RX7, "ring", "(II)I"⟩
abbrev cX7_ringAt : ByteArray := prog_9_method_26_code
def yX7_ringAt : MethodName := ⟨RX7, "ringAt", "(I)I"⟩
abbrev cX7_turns : ByteArray := prog_9_method_27_code
def yX7_turns : MethodName := ⟨RX7, "turns", "(I)I"⟩
abbrev cX7_turn : ByteArray := prog_9_method_28_code
def yX7_turn : MethodName := ⟨RX7, "turn", "(I)I"⟩
abbrev cX7_isAsWas : ByteArray := prog_9_method_29_code
def yX7_isAsWas : MethodName := ⟨RX7, "isAsWas", "()Z"⟩
abbrev cX7_periodOf : ByteArray := prog_9_method_30_code
def yX7_periodOf : MethodName := ⟨RX7, "periodOf", "(I)I"⟩
abbrev cX7_period : ByteArray := prog_9_method_31_code
def yX7_period : MethodName := ⟨RX7, "period", "(I)I"⟩
abbrev cX7_rings : ByteArray := prog_9_method_32_code
def yX7_rings : MethodName := ⟨RX7, "rings", "(IIII)I"⟩
abbrev cX7_meets : ByteArray := prog_9_method_33_code
def yX7_meets : MethodName := ⟨RX7, "meets", "(I)I"⟩
abbrev cX7_isSheet : ByteArray := prog_9_method_34_code
def yX7_isSheet : MethodName := ⟨RX7, "isSheet", "(I)Z"⟩
abbrev cX7_sheet : ByteArray := prog_9_method_35_code
def yX7_sheet : MethodName := ⟨RX7, "sheet", "(III)I"⟩
abbrev cX7_lose : ByteArray := prog_9_method_36_code
def yX7_lose : MethodName := ⟨RX7, "lose", "(I)I"⟩
abbrev cX7_lacks : ByteArray := prog_9_method_37_code
def yX7_lacks : MethodName := ⟨RX7, "lacks", "(III)I"⟩
abbrev cX7_put : ByteArray := prog_9_method_38_code
def yX7_put : MethodName := ⟨RX7, "put", "(IIII)I"⟩
abbrev cX7_get : ByteArray := prog_9_method_39_code
def yX7_get : MethodName := ⟨RX7, "get", "(III)I"⟩
abbrev cX7_copy : ByteArray := prog_9_method_40_code
def yX7_copy : MethodName := ⟨RX7, "copy", "(IIIII)I"⟩
abbrev cX7_load : ByteArray := prog_9_method_41_code
def yX7_load : MethodName := ⟨RX7, "load", "(II)I"⟩
abbrev cX7_write : ByteArray := prog_9_method_42_code
def yX7_write : MethodName := ⟨RX7, "write", "(II)I"⟩
abbrev cX7_count : ByteArray := prog_9_method_43_code
def yX7_count : MethodName := ⟨RX7, "count", "(I)I"⟩
abbrev cX7_digest : ByteArray := prog_9_method_44_code
def yX7_digest : MethodName := ⟨RX7, "digest", "()J"⟩
def RJ6 : String := "java/lang/Integer"
def TJ6 : u_T := fun k => match k with
  | _ => ("", "", "", false)
def tyJ6 : Nat → FieldType := fun k => match k with
  | _ => .int
abbrev wsJ60 : List Cond := u_ws RJ6 TJ6 0
theorem nmJ6 : ∀ a, a < 0 → ∀ b, b < 0 → a ≠ b → (TJ6 a).2.1 ≠ (TJ6 b).2.1 := by decide +kernel
theorem tyJ6_ok : ∀ k, k < 0 → parseFieldDescriptor (TJ6 k).2.2.1 = some (tyJ6 k) := by decide +kernel
abbrev cJ6_bitCount_0f7a4 : ByteArray := prog_10_method_49_code
def yJ6_bitCount_0f7a4 : MethodName := ⟨RJ6, "bitCount", "(I)I"⟩
def RJ13 : String := "java/lang/Long"
def TJ13 : u_T := fun k => match k with
  | _ => ("", "", "", false)
def tyJ13 : Nat → FieldType := fun k => match k with
  | _ => .int
abbrev wsJ130 : List Cond := u_ws RJ13 TJ13 0
theorem nmJ13 : ∀ a, a < 0 → ∀ b, b < 0 → a ≠ b → (TJ13 a).2.1 ≠ (TJ13 b).2.1 := by decide +kernel
theorem tyJ13_ok : ∀ k, k < 0 → parseFieldDescriptor (TJ13 k).2.2.1 = some (tyJ13 k) := by decide +kernel
abbrev cJ13_bitCount_95d88 : ByteArray := prog_11_method_50_code
def yJ13_bitCount_95d88 : MethodName := ⟨RJ13, "bitCount", "(J)I"⟩
def RJ9 : String := "java/lang/Math"
def TJ9 : u_T := fun k => match k with
  | _ => ("", "", "", false)
def tyJ9 : Nat → FieldType := fun k => match k with
  | _ => .int
abbrev wsJ90 : List Cond := u_ws RJ9 TJ9 0
theorem nmJ9 : ∀ a, a < 0 → ∀ b, b < 0 → a ≠ b → (TJ9 a).2.1 ≠ (TJ9 b).2.1 := by decide +kernel
theorem tyJ9_ok : ∀ k, k < 0 → parseFieldDescriptor (TJ9 k).2.2.1 = some (tyJ9 k) := by decide +kernel
abbrev cJ9_max_7cf53 : ByteArray := prog_12_method_65_code
def yJ9_max_7cf53 : MethodName := ⟨RJ9, "max", "(II)I"⟩
abbrev cJ9_min_7cf53 : ByteArray := prog_12_method_69_code
def yJ9_min_7cf53 : MethodName := ⟨RJ9, "min", "(II)I"⟩
def RJ10 : String := "java/lang/System"
def TJ10 : u_T := fun k => match k with
  | _ => ("", "", "", false)
def tyJ10 : Nat → FieldType := fun k => match k with
  | _ => .int
abbrev wsJ100 : List Cond := u_ws RJ10 TJ10 0
theorem nmJ10 : ∀ a, a < 0 → ∀ b, b < 0 → a ≠ b → (TJ10 a).2.1 ≠ (TJ10 b).2.1 := by decide +kernel
theorem tyJ10_ok : ∀ k, k < 0 → parseFieldDescriptor (TJ10 k).2.2.1 = some (tyJ10 k) := by decide +kernel
def RL : String := "BallBoxesLaw"
abbrev cL_law : ByteArray := code
def yL_law : MethodName := ⟨RL, "law", "([I)Z"⟩
def wsX0_init : List Cond := .code yX0_init cX0_init 1 none :: ([.methodLink RX0 3 objectInit, .instanceMethod objectInit, .code objectInit ⟨#[0xb1]⟩ 1 none, .arrayClass .int, .fieldLink RX0 9 "BallBoxes$Pairs" "left" "[I"] ++ wsX00)
def wsX6_isBox : List Cond := .code yX6_isBox cX6_isBox 1 (some .boolean) :: ([])
def wsX3_ballAt : List Cond := .code yX3_ballAt cX3_ballAt 2 (some .int) :: ([.fieldLink RX3 9 "BallBoxes$Row" "boxes" "[I", .static yX6_isBox, .initialized RX6, .code yX6_isBox cX6_isBox 1 (some .boolean)] ++ wsX30)
def wsX0_begin : List Cond := .code yX0_begin cX0_begin 3 none :: ([.fieldLink RX0 9 "BallBoxes$Pairs" "left" "[I", .fieldLink RX0 29 "BallBoxes$Pairs" "size" "I", .methodLink RX0 23 yX3_ballAt, .instanceMethod yX3_ballAt, .selects RX3 yX3_ballAt yX3_ballAt, .initialized RX3, .code yX3_ballAt cX3_ballAt 2 (some .int), .fieldLink RX3 9 "BallBoxes$Row" "boxes" "[I", .static yX6_isBox, .initialized RX6, .code yX6_isBox cX6_isBox 1 (some .boolean)] ++ wsX00 ++ wsX30)
def wsX0_takeOut : List Cond := .code yX0_takeOut cX0_takeOut 6 (some .int) :: ([.fieldLink RX0 29 "BallBoxes$Pairs" "size" "I", .fieldLink RX0 9 "BallBoxes$Pairs" "left" "[I"] ++ wsX00)
def wsX0_heapsOf : List Cond := .code yX0_heapsOf cX0_heapsOf 2 (some .int) :: ([.methodLink RX0 15 yX0_begin, .instanceMethod yX0_begin, .selects RX0 yX0_begin yX0_begin, .initialized RX0, .code yX0_begin cX0_begin 3 none, .fieldLink RX0 9 "BallBoxes$Pairs" "left" "[I", .fieldLink RX0 29 "BallBoxes$Pairs" "size" "I", .methodLink RX0 23 yX3_ballAt, .instanceMethod yX3_ballAt, .selects RX3 yX3_ballAt yX3_ballAt, .initialized RX3, .code yX3_ballAt cX3_ballAt 2 (some .int), .fieldLink RX3 9 "BallBoxes$Row" "boxes" "[I", .static yX6_isBox, .initialized RX6, .code yX6_isBox cX6_isBox 1 (some .boolean), .methodLink RX0 19 yX0_takeOut, .instanceMethod yX0_takeOut, .selects RX0 yX0_takeOut yX0_takeOut, .code yX0_takeOut cX0_takeOut 6 (some .int)] ++ wsX00 ++ wsX30)
def wsX0_countsAbove : List Cond := .code yX0_countsAbove cX0_countsAbove 5 (some .int) :: ([.methodLink RX0 15 yX0_begin, .instanceMethod yX0_begin, .selects RX0 yX0_begin yX0_begin, .initialized RX0, .code yX0_begin cX0_begin 3 none, .fieldLink RX0 9 "BallBoxes$Pairs" "left" "[I", .fieldLink RX0 29 "BallBoxes$Pairs" "size" "I", .methodLink RX0 23 yX3_ballAt, .instanceMethod yX3_ballAt, .selects RX3 yX3_ballAt yX3_ballAt, .initialized RX3, .code yX3_ballAt cX3_ballAt 2 (some .int), .fieldLink RX3 9 "BallBoxes$Row" "boxes" "[I", .static yX6_isBox, .initialized RX6, .code yX6_isBox cX6_isBox 1 (some .boolean), .methodLink RX0 19 yX0_takeOut, .instanceMethod yX0_takeOut, .selects RX0 yX0_takeOut yX0_takeOut, .code yX0_takeOut cX0_takeOut 6 (some .int)] ++ wsX00 ++ wsX30)
def wsX1_init : List Cond := .code yX1_init cX1_init 1 none :: ([.methodLink RX1 1 objectInit, .instanceMethod objectInit, .code objectInit ⟨#[0xb1]⟩ 1 none, .fieldLink RX1 7 "BallBoxes$Ring" "size" "I"] ++ wsX10)
def wsX1_become : List Cond := .code yX1_become cX1_become 4 none :: ([.fieldLink RX1 7 "BallBoxes$Ring" "size" "I", .fieldLink RX1 13 "BallBoxes$Ring" "bits" "J"] ++ wsX10)
def wsX1_isRingBox : List Cond := .code yX1_isRingBox cX1_isRingBox 2 (some .boolean) :: ([.fieldLink RX1 7 "BallBoxes$Ring" "size" "I"] ++ wsX10)
def wsX1_ballAt : List Cond := .code yX1_ballAt cX1_ballAt 2 (some .int) :: ([.fieldLink RX1 13 "BallBoxes$Ring" "bits" "J"] ++ wsX10)
def wsX6_loadBehind : List Cond := .code yX6_loadBehind cX6_loadBehind 3 (some .int) :: ([])
def wsX1_goRound : List Cond := .code yX1_goRound cX1_goRound 9 none :: ([.fieldLink RX1 7 "BallBoxes$Ring" "size" "I", .fieldLink RX1 24 "BallBoxes$Ring" "made" "J", .fieldLink RX1 21 "BallBoxes$Ring" "carrierHas" "I", .methodLink RX1 27 yX1_ballAt, .instanceMethod yX1_ballAt, .selects RX1 yX1_ballAt yX1_ballAt, .initialized RX1, .code yX1_ballAt cX1_ballAt 2 (some .int), .fieldLink RX1 13 "BallBoxes$Ring" "bits" "J", .static yX6_loadBehind, .initialized RX6, .code yX6_loadBehind cX6_loadBehind 3 (some .int)] ++ wsX10)
def wsX1_turnBy : List Cond := .code yX1_turnBy cX1_turnBy 3 (some .int) :: ([.fieldLink RX1 21 "BallBoxes$Ring" "carrierHas" "I", .fieldLink RX1 24 "BallBoxes$Ring" "made" "J", .fieldLink RX1 13 "BallBoxes$Ring" "bits" "J", .methodLink RX1 17 yX1_goRound, .instanceMethod yX1_goRound, .selects RX1 yX1_goRound yX1_goRound, .initialized RX1, .code yX1_goRound cX1_goRound 9 none, .fieldLink RX1 7 "BallBoxes$Ring" "size" "I", .methodLink RX1 27 yX1_ballAt, .instanceMethod yX1_ballAt, .selects RX1 yX1_ballAt yX1_ballAt, .code yX1_ballAt cX1_ballAt 2 (some .int), .static yX6_loadBehind, .initialized RX6, .code yX6_loadBehind cX6_loadBehind 3 (some .int)] ++ wsX10)
def wsX2_init : List Cond := .code yX2_init cX2_init 1 none :: ([.methodLink RX2 3 objectInit, .instanceMethod objectInit, .code objectInit ⟨#[0xb1]⟩ 1 none, .classLink RX2 9 RX1, .instantiable RX1 4, .initialized RX1, .fieldLink RX2 12 "BallBoxes$RingTrial" "ring" "LBallBoxes$Ring;", .arrayClass .long, .fieldLink RX2 18 "BallBoxes$RingTrial" "seen" "[J", .instanceMethod yX1_init, .code yX1_init cX1_init 1 none, .methodLink RX1 1 objectInit, .fieldLink RX1 7 "BallBoxes$Ring" "size" "I"] ++ wsX10 ++ wsX20)
def wsX2_periodOf_r1 : List Cond := [Cond.fieldLink RX2 12 "BallBoxes$RingTrial" "ring" "LBallBoxes$Ring;", Cond.methodLink RX2 30 yX1_become, Cond.instanceMethod yX1_become, Cond.selects RX1 yX1_become yX1_become, Cond.initialized RX1, Cond.code yX1_become cX1_become 4 none, Cond.fieldLink RX1 7 "BallBoxes$Ring" "size" "I", Cond.fieldLink RX1 13 "BallBoxes$Ring" "bits" "J", Cond.methodLink RX2 34 yX1_turnBy, Cond.instanceMethod yX1_turnBy, Cond.selects RX1 yX1_turnBy yX1_turnBy, Cond.code yX1_turnBy cX1_turnBy 3 (some .int), Cond.fieldLink RX1 21 "BallBoxes$Ring" "carrierHas" "I", Cond.fieldLink RX1 24 "BallBoxes$Ring" "made" "J", Cond.methodLink RX1 17 yX1_goRound, Cond.instanceMethod yX1_goRound, Cond.selects RX1 yX1_goRound yX1_goRound, Cond.code yX1_goRound cX1_goRound 9 none, Cond.methodLink RX1 27 yX1_ballAt, Cond.instanceMethod yX1_ballAt, Cond.selects RX1 yX1_ballAt yX1_ballAt, Cond.code yX1_ballAt cX1_ballAt 2 (some .int), Cond.static yX6_loadBehind, Cond.initialized RX6]
def wsX2_periodOf_r2 : List Cond := [Cond.code yX6_loadBehind cX6_loadBehind 3 (some .int)]
def wsX2_periodOf : List Cond := .code yX2_periodOf cX2_periodOf 4 (some .int) :: ((wsX2_periodOf_r1 ++ wsX2_periodOf_r2) ++ wsX20 ++ wsX10)
def wsJ6_bitCount_0f7a4 : List Cond := .code yJ6_bitCount_0f7a4 cJ6_bitCount_0f7a4 1 (some .int) :: ([.constant RJ6 265 (1431655765), .constant RJ6 266 (858993459), .constant RJ6 267 (252645135)])
def wsX2_countAll : List Cond := .code yX2_countAll cX2_countAll 5 (some .int) :: ([.methodLink RX2 38 yJ6_bitCount_0f7a4, .static yJ6_bitCount_0f7a4, .initialized RJ6, .code yJ6_bitCount_0f7a4 cJ6_bitCount_0f7a4 1 (some .int), .constant RJ6 265 (1431655765), .constant RJ6 266 (858993459), .constant RJ6 267 (252645135)])
def wsX2_forget : List Cond := .code yX2_forget cX2_forget 2 none :: ([.fieldLink RX2 18 "BallBoxes$RingTrial" "seen" "[J"] ++ wsX20)
def wsX2_isSeen : List Cond := .code yX2_isSeen cX2_isSeen 3 (some .boolean) :: ([.fieldLink RX2 18 "BallBoxes$RingTrial" "seen" "[J"] ++ wsX20)
def wsX2_see : List Cond := .code yX2_see cX2_see 3 none :: ([.fieldLink RX2 18 "BallBoxes$RingTrial" "seen" "[J"] ++ wsX20)
def wsX2_goThrough_r1 : List Cond := [Cond.fieldLink RX2 12 "BallBoxes$RingTrial" "ring" "LBallBoxes$Ring;", Cond.methodLink RX2 30 yX1_become, Cond.instanceMethod yX1_become, Cond.selects RX1 yX1_become yX1_become, Cond.initialized RX1, Cond.code yX1_become cX1_become 4 none, Cond.fieldLink RX1 7 "BallBoxes$Ring" "size" "I", Cond.fieldLink RX1 13 "BallBoxes$Ring" "bits" "J", Cond.methodLink RX2 34 yX1_turnBy, Cond.instanceMethod yX1_turnBy, Cond.selects RX1 yX1_turnBy yX1_turnBy, Cond.code yX1_turnBy cX1_turnBy 3 (some .int), Cond.fieldLink RX1 21 "BallBoxes$Ring" "carrierHas" "I", Cond.fieldLink RX1 24 "BallBoxes$Ring" "made" "J", Cond.methodLink RX1 17 yX1_goRound, Cond.instanceMethod yX1_goRound, Cond.selects RX1 yX1_goRound yX1_goRound, Cond.code yX1_goRound cX1_goRound 9 none, Cond.methodLink RX1 27 yX1_ballAt, Cond.instanceMethod yX1_ballAt, Cond.selects RX1 yX1_ballAt yX1_ballAt, Cond.code yX1_ballAt cX1_ballAt 2 (some .int), Cond.static yX6_loadBehind, Cond.initialized RX6]
def wsX2_goThrough_r2 : List Cond := [Cond.code yX6_loadBehind cX6_loadBehind 3 (some .int), Cond.methodLink RX2 54 yX2_see, Cond.instanceMethod yX2_see, Cond.selects RX2 yX2_see yX2_see, Cond.initialized RX2, Cond.code yX2_see cX2_see 3 none, Cond.fieldLink RX2 18 "BallBoxes$RingTrial" "seen" "[J"]
def wsX2_goThrough : List Cond := .code yX2_goThrough cX2_goThrough 5 (some .int) :: ((wsX2_goThrough_r1 ++ wsX2_goThrough_r2) ++ wsX20 ++ wsX10)
def wsX2_countWithPeriod_r1 : List Cond := [Cond.methodLink RX2 43 yX2_forget, Cond.instanceMethod yX2_forget, Cond.selects RX2 yX2_forget yX2_forget, Cond.initialized RX2, Cond.code yX2_forget cX2_forget 2 none, Cond.fieldLink RX2 18 "BallBoxes$RingTrial" "seen" "[J", Cond.methodLink RX2 38 yJ6_bitCount_0f7a4, Cond.static yJ6_bitCount_0f7a4, Cond.initialized RJ6, Cond.code yJ6_bitCount_0f7a4 cJ6_bitCount_0f7a4 1 (some .int), Cond.constant RJ6 265 (1431655765), Cond.constant RJ6 266 (858993459), Cond.constant RJ6 267 (252645135), Cond.methodLink RX2 46 yX2_isSeen, Cond.instanceMethod yX2_isSeen, Cond.selects RX2 yX2_isSeen yX2_isSeen, Cond.code yX2_isSeen cX2_isSeen 3 (some .boolean), Cond.methodLink RX2 50 yX2_goThrough, Cond.instanceMethod yX2_goThrough, Cond.selects RX2 yX2_goThrough yX2_goThrough, Cond.code yX2_goThrough cX2_goThrough 5 (some .int), Cond.fieldLink RX2 12 "BallBoxes$RingTrial" "ring" "LBallBoxes$Ring;", Cond.methodLink RX2 30 yX1_become, Cond.instanceMethod yX1_become]
def wsX2_countWithPeriod_r2 : List Cond := [Cond.selects RX1 yX1_become yX1_become, Cond.initialized RX1, Cond.code yX1_become cX1_become 4 none, Cond.fieldLink RX1 7 "BallBoxes$Ring" "size" "I", Cond.fieldLink RX1 13 "BallBoxes$Ring" "bits" "J", Cond.methodLink RX2 34 yX1_turnBy, Cond.instanceMethod yX1_turnBy, Cond.selects RX1 yX1_turnBy yX1_turnBy, Cond.code yX1_turnBy cX1_turnBy 3 (some .int), Cond.fieldLink RX1 21 "BallBoxes$Ring" "carrierHas" "I", Cond.fieldLink RX1 24 "BallBoxes$Ring" "made" "J", Cond.methodLink RX1 17 yX1_goRound, Cond.instanceMethod yX1_goRound, Cond.selects RX1 yX1_goRound yX1_goRound, Cond.code yX1_goRound cX1_goRound 9 none, Cond.methodLink RX1 27 yX1_ballAt, Cond.instanceMethod yX1_ballAt, Cond.selects RX1 yX1_ballAt yX1_ballAt, Cond.code yX1_ballAt cX1_ballAt 2 (some .int), Cond.static yX6_loadBehind, Cond.initialized RX6, Cond.code yX6_loadBehind cX6_loadBehind 3 (some .int), Cond.methodLink RX2 54 yX2_see, Cond.instanceMethod yX2_see]
def wsX2_countWithPeriod_r3 : List Cond := [Cond.selects RX2 yX2_see yX2_see, Cond.code yX2_see cX2_see 3 none]
def wsX2_countWithPeriod : List Cond := .code yX2_countWithPeriod cX2_countWithPeriod 8 (some .int) :: ((wsX2_countWithPeriod_r1 ++ (wsX2_countWithPeriod_r2 ++ wsX2_countWithPeriod_r3)) ++ wsX20 ++ wsX10)
def wsX3_init : List Cond := .code yX3_init cX3_init 1 none :: ([.methodLink RX3 3 objectInit, .instanceMethod objectInit, .code objectInit ⟨#[0xb1]⟩ 1 none, .arrayClass .int, .fieldLink RX3 9 "BallBoxes$Row" "boxes" "[I", .fieldLink RX3 15 "BallBoxes$Row" "made" "[I"] ++ wsX30)
def wsX3_place : List Cond := .code yX3_place cX3_place 3 none :: ([.fieldLink RX3 9 "BallBoxes$Row" "boxes" "[I", .static yX6_isBox, .initialized RX6, .code yX6_isBox cX6_isBox 1 (some .boolean)] ++ wsX30)
def wsX3_makeBox : List Cond := .code yX3_makeBox cX3_makeBox 3 none :: ([.fieldLink RX3 15 "BallBoxes$Row" "made" "[I", .static yX6_isBox, .initialized RX6, .code yX6_isBox cX6_isBox 1 (some .boolean)] ++ wsX30)
def wsX3_clear : List Cond := .code yX3_clear cX3_clear 2 none :: ([.fieldLink RX3 9 "BallBoxes$Row" "boxes" "[I"] ++ wsX30)
def wsX3_balls : List Cond := .code yX3_balls cX3_balls 3 (some .int) :: ([.fieldLink RX3 9 "BallBoxes$Row" "boxes" "[I"] ++ wsX30)
def wsX3_firstBall : List Cond := .code yX3_firstBall cX3_firstBall 2 (some .int) :: ([.fieldLink RX3 9 "BallBoxes$Row" "boxes" "[I"] ++ wsX30)
def wsX3_lastBall : List Cond := .code yX3_lastBall cX3_lastBall 2 (some .int) :: ([.fieldLink RX3 9 "BallBoxes$Row" "boxes" "[I"] ++ wsX30)
def wsX3_bits : List Cond := .code yX3_bits cX3_bits 6 (some .long) :: ([.methodLink RX3 22 yX3_ballAt, .instanceMethod yX3_ballAt, .selects RX3 yX3_ballAt yX3_ballAt, .initialized RX3, .code yX3_ballAt cX3_ballAt 2 (some .int), .fieldLink RX3 9 "BallBoxes$Row" "boxes" "[I", .static yX6_isBox, .initialized RX6, .code yX6_isBox cX6_isBox 1 (some .boolean)] ++ wsX30)
def wsX3_takenBy : List Cond := .code yX3_takenBy cX3_takenBy 6 (some .int) :: ([.fieldLink RX3 9 "BallBoxes$Row" "boxes" "[I", .static yX6_loadBehind, .initialized RX6, .code yX6_loadBehind cX6_loadBehind 3 (some .int)] ++ wsX30)
def wsX3_makeByCarrier : List Cond := .code yX3_makeByCarrier cX3_makeByCarrier 8 (some .int) :: ([.methodLink RX3 22 yX3_ballAt, .instanceMethod yX3_ballAt, .selects RX3 yX3_ballAt yX3_ballAt, .initialized RX3, .code yX3_ballAt cX3_ballAt 2 (some .int), .fieldLink RX3 9 "BallBoxes$Row" "boxes" "[I", .static yX6_isBox, .initialized RX6, .code yX6_isBox cX6_isBox 1 (some .boolean), .static yX6_loadBehind, .code yX6_loadBehind cX6_loadBehind 3 (some .int), .methodLink RX3 30 yX3_makeBox, .instanceMethod yX3_makeBox, .selects RX3 yX3_makeBox yX3_makeBox, .code yX3_makeBox cX3_makeBox 3 none, .fieldLink RX3 15 "BallBoxes$Row" "made" "[I"] ++ wsX30)
def wsX3_becomeMade : List Cond := .code yX3_becomeMade cX3_becomeMade 3 (some .int) :: ([.fieldLink RX3 9 "BallBoxes$Row" "boxes" "[I", .fieldLink RX3 15 "BallBoxes$Row" "made" "[I"] ++ wsX30)
def wsX4_init : List Cond := .code yX4_init cX4_init 1 none :: ([.methodLink RX4 3 objectInit, .instanceMethod objectInit, .code objectInit ⟨#[0xb1]⟩ 1 none, .arrayClass .int, .fieldLink RX4 9 "BallBoxes$Sheet" "items" "[I", .fieldLink RX4 15 "BallBoxes$Sheet" "lost" "Z"] ++ wsX40)
def wsX4_begin : List Cond := .code yX4_begin cX4_begin 4 none :: ([.fieldLink RX4 15 "BallBoxes$Sheet" "lost" "Z", .fieldLink RX4 19 "BallBoxes$Sheet" "form" "I", .fieldLink RX4 23 "BallBoxes$Sheet" "size" "I", .fieldLink RX4 9 "BallBoxes$Sheet" "items" "[I"] ++ wsX40)
def wsX4_isItem : List Cond := .code yX4_isItem cX4_isItem 2 (some .boolean) :: ([.fieldLink RX4 23 "BallBoxes$Sheet" "size" "I"] ++ wsX40)
def wsX4_findingAt : List Cond := .code yX4_findingAt cX4_findingAt 3 (some .int) :: ([.fieldLink RX4 15 "BallBoxes$Sheet" "lost" "Z", .fieldLink RX4 19 "BallBoxes$Sheet" "form" "I", .methodLink RX4 26 yX4_isItem, .instanceMethod yX4_isItem, .selects RX4 yX4_isItem yX4_isItem, .initialized RX4, .code yX4_isItem cX4_isItem 2 (some .boolean), .fieldLink RX4 23 "BallBoxes$Sheet" "size" "I"] ++ wsX40)
def wsX4_hasItems : List Cond := .code yX4_hasItems cX4_hasItems 3 (some .boolean) :: ([.fieldLink RX4 23 "BallBoxes$Sheet" "size" "I"] ++ wsX40)
def wsX4_itemAt : List Cond := .code yX4_itemAt cX4_itemAt 2 (some .int) :: ([.fieldLink RX4 9 "BallBoxes$Sheet" "items" "[I", .methodLink RX4 26 yX4_isItem, .instanceMethod yX4_isItem, .selects RX4 yX4_isItem yX4_isItem, .initialized RX4, .code yX4_isItem cX4_isItem 2 (some .boolean), .fieldLink RX4 23 "BallBoxes$Sheet" "size" "I"] ++ wsX40)
def wsX4_cut : List Cond := .code yX4_cut cX4_cut 2 (some .int) :: ([.fieldLink RX4 19 "BallBoxes$Sheet" "form" "I"] ++ wsX40)
def wsX4_place : List Cond := .code yX4_place cX4_place 3 none :: ([.fieldLink RX4 9 "BallBoxes$Sheet" "items" "[I", .methodLink RX4 26 yX4_isItem, .instanceMethod yX4_isItem, .selects RX4 yX4_isItem yX4_isItem, .initialized RX4, .code yX4_isItem cX4_isItem 2 (some .boolean), .fieldLink RX4 23 "BallBoxes$Sheet" "size" "I", .methodLink RX4 30 yX4_cut, .instanceMethod yX4_cut, .selects RX4 yX4_cut yX4_cut, .code yX4_cut cX4_cut 2 (some .int), .fieldLink RX4 19 "BallBoxes$Sheet" "form" "I"] ++ wsX40)
def wsX5_init : List Cond := .code yX5_init cX5_init 1 none :: ([.methodLink RX5 3 objectInit, .instanceMethod objectInit, .code objectInit ⟨#[0xb1]⟩ 1 none, .arrayClass .int, .fieldLink RX5 9 "BallBoxes$Strings" "lengths" "[I", .fieldLink RX5 15 "BallBoxes$Strings" "riggings" "[I", .fieldLink RX5 18 "BallBoxes$Strings" "lesserSums" "[I"] ++ wsX50)
def wsX5_isString : List Cond := .code yX5_isString cX5_isString 2 (some .boolean) :: ([.fieldLink RX5 21 "BallBoxes$Strings" "size" "I"] ++ wsX50)
def wsX5_lengthOf : List Cond := .code yX5_lengthOf cX5_lengthOf 2 (some .int) :: ([.fieldLink RX5 9 "BallBoxes$Strings" "lengths" "[I", .methodLink RX5 25 yX5_isString, .instanceMethod yX5_isString, .selects RX5 yX5_isString yX5_isString, .initialized RX5, .code yX5_isString cX5_isString 2 (some .boolean), .fieldLink RX5 21 "BallBoxes$Strings" "size" "I"] ++ wsX50)
def wsX5_riggingOf : List Cond := .code yX5_riggingOf cX5_riggingOf 2 (some .int) :: ([.fieldLink RX5 15 "BallBoxes$Strings" "riggings" "[I", .methodLink RX5 25 yX5_isString, .instanceMethod yX5_isString, .selects RX5 yX5_isString yX5_isString, .initialized RX5, .code yX5_isString cX5_isString 2 (some .boolean), .fieldLink RX5 21 "BallBoxes$Strings" "size" "I"] ++ wsX50)
def wsX5_roomLeft : List Cond := .code yX5_roomLeft cX5_roomLeft 3 (some .int) :: ([.fieldLink RX5 18 "BallBoxes$Strings" "lesserSums" "[I"] ++ wsX50)
def wsX5_clear : List Cond := .code yX5_clear cX5_clear 2 none :: ([.fieldLink RX5 21 "BallBoxes$Strings" "size" "I", .fieldLink RX5 18 "BallBoxes$Strings" "lesserSums" "[I"] ++ wsX50)
def wsX5_isTight : List Cond := .code yX5_isTight cX5_isTight 3 (some .boolean) :: ([.methodLink RX5 87 yX5_riggingOf, .instanceMethod yX5_riggingOf, .selects RX5 yX5_riggingOf yX5_riggingOf, .initialized RX5, .code yX5_riggingOf cX5_riggingOf 2 (some .int), .fieldLink RX5 15 "BallBoxes$Strings" "riggings" "[I", .methodLink RX5 25 yX5_isString, .instanceMethod yX5_isString, .selects RX5 yX5_isString yX5_isString, .code yX5_isString cX5_isString 2 (some .boolean), .fieldLink RX5 21 "BallBoxes$Strings" "size" "I", .methodLink RX5 90 yX5_lengthOf, .instanceMethod yX5_lengthOf, .selects RX5 yX5_lengthOf yX5_lengthOf, .code yX5_lengthOf cX5_lengthOf 2 (some .int), .fieldLink RX5 9 "BallBoxes$Strings" "lengths" "[I", .methodLink RX5 58 yX5_roomLeft, .instanceMethod yX5_roomLeft, .selects RX5 yX5_roomLeft yX5_roomLeft, .code yX5_roomLeft cX5_roomLeft 3 (some .int), .fieldLink RX5 18 "BallBoxes$Strings" "lesserSums" "[I"] ++ wsX50)
def wsX5_longestTight_r1 : List Cond := [Cond.fieldLink RX5 21 "BallBoxes$Strings" "size" "I", Cond.fieldLink RX5 9 "BallBoxes$Strings" "lengths" "[I", Cond.methodLink RX5 93 yX5_isTight, Cond.instanceMethod yX5_isTight, Cond.selects RX5 yX5_isTight yX5_isTight, Cond.initialized RX5, Cond.code yX5_isTight cX5_isTight 3 (some .boolean), Cond.methodLink RX5 87 yX5_riggingOf, Cond.instanceMethod yX5_riggingOf, Cond.selects RX5 yX5_riggingOf yX5_riggingOf, Cond.code yX5_riggingOf cX5_riggingOf 2 (some .int), Cond.fieldLink RX5 15 "BallBoxes$Strings" "riggings" "[I", Cond.methodLink RX5 25 yX5_isString, Cond.instanceMethod yX5_isString, Cond.selects RX5 yX5_isString yX5_isString, Cond.code yX5_isString cX5_isString 2 (some .boolean), Cond.methodLink RX5 90 yX5_lengthOf, Cond.instanceMethod yX5_lengthOf, Cond.selects RX5 yX5_lengthOf yX5_lengthOf, Cond.code yX5_lengthOf cX5_lengthOf 2 (some .int), Cond.methodLink RX5 58 yX5_roomLeft, Cond.instanceMethod yX5_roomLeft, Cond.selects RX5 yX5_roomLeft yX5_roomLeft, Cond.code yX5_roomLeft cX5_roomLeft 3 (some .int)]
def wsX5_longestTight_r2 : List Cond := [Cond.fieldLink RX5 18 "BallBoxes$Strings" "lesserSums" "[I"]
def wsX5_longestTight : List Cond := .code yX5_longestTight cX5_longestTight 4 (some .int) :: ((wsX5_longestTight_r1 ++ wsX5_longestTight_r2) ++ wsX50)
def wsX5_addString : List Cond := .code yX5_addString cX5_addString 1 (some .int) :: ([.fieldLink RX5 21 "BallBoxes$Strings" "size" "I", .fieldLink RX5 9 "BallBoxes$Strings" "lengths" "[I"] ++ wsX50)
def wsX5_addToSums : List Cond := .code yX5_addToSums cX5_addToSums 4 none :: ([.methodLink RX5 84 Lib.Math.max.name, .static Lib.Math.max.name, .initialized "java/lang/Math", .code Lib.Math.max.name Lib.Math.max.code 2 (some .int), .fieldLink RX5 18 "BallBoxes$Strings" "lesserSums" "[I"] ++ wsX50)
def wsX5_takeBall_r1 : List Cond := [Cond.fieldLink RX5 9 "BallBoxes$Strings" "lengths" "[I", Cond.fieldLink RX5 15 "BallBoxes$Strings" "riggings" "[I", Cond.methodLink RX5 68 yX5_longestTight, Cond.instanceMethod yX5_longestTight, Cond.selects RX5 yX5_longestTight yX5_longestTight, Cond.initialized RX5, Cond.code yX5_longestTight cX5_longestTight 4 (some .int), Cond.fieldLink RX5 21 "BallBoxes$Strings" "size" "I", Cond.methodLink RX5 93 yX5_isTight, Cond.instanceMethod yX5_isTight, Cond.selects RX5 yX5_isTight yX5_isTight, Cond.code yX5_isTight cX5_isTight 3 (some .boolean), Cond.methodLink RX5 87 yX5_riggingOf, Cond.instanceMethod yX5_riggingOf, Cond.selects RX5 yX5_riggingOf yX5_riggingOf, Cond.code yX5_riggingOf cX5_riggingOf 2 (some .int), Cond.methodLink RX5 25 yX5_isString, Cond.instanceMethod yX5_isString, Cond.selects RX5 yX5_isString yX5_isString, Cond.code yX5_isString cX5_isString 2 (some .boolean), Cond.methodLink RX5 90 yX5_lengthOf, Cond.instanceMethod yX5_lengthOf, Cond.selects RX5 yX5_lengthOf yX5_lengthOf, Cond.code yX5_lengthOf cX5_lengthOf 2 (some .int)]
def wsX5_takeBall_r2 : List Cond := [Cond.methodLink RX5 58 yX5_roomLeft, Cond.instanceMethod yX5_roomLeft, Cond.selects RX5 yX5_roomLeft yX5_roomLeft, Cond.code yX5_roomLeft cX5_roomLeft 3 (some .int), Cond.fieldLink RX5 18 "BallBoxes$Strings" "lesserSums" "[I", Cond.methodLink RX5 71 yX5_addString, Cond.instanceMethod yX5_addString, Cond.selects RX5 yX5_addString yX5_addString, Cond.code yX5_addString cX5_addString 1 (some .int), Cond.methodLink RX5 75 yX5_addToSums, Cond.instanceMethod yX5_addToSums, Cond.selects RX5 yX5_addToSums yX5_addToSums, Cond.code yX5_addToSums cX5_addToSums 4 none, Cond.methodLink RX5 84 Lib.Math.max.name, Cond.static Lib.Math.max.name, Cond.initialized "java/lang/Math", Cond.code Lib.Math.max.name Lib.Math.max.code 2 (some .int)]
def wsX5_takeBall : List Cond := .code yX5_takeBall cX5_takeBall 3 none :: ((wsX5_takeBall_r1 ++ wsX5_takeBall_r2) ++ wsX50)
def wsX5_readFrom_r1 : List Cond := [Cond.fieldLink RX5 42 "BallBoxes$Strings" "boxesRead" "I", Cond.methodLink RX5 29 yX5_clear, Cond.instanceMethod yX5_clear, Cond.selects RX5 yX5_clear yX5_clear, Cond.initialized RX5, Cond.code yX5_clear cX5_clear 2 none, Cond.fieldLink RX5 21 "BallBoxes$Strings" "size" "I", Cond.fieldLink RX5 18 "BallBoxes$Strings" "lesserSums" "[I", Cond.methodLink RX5 32 yX3_ballAt, Cond.instanceMethod yX3_ballAt, Cond.selects RX3 yX3_ballAt yX3_ballAt, Cond.initialized RX3, Cond.code yX3_ballAt cX3_ballAt 2 (some .int), Cond.fieldLink RX3 9 "BallBoxes$Row" "boxes" "[I", Cond.static yX6_isBox, Cond.initialized RX6, Cond.code yX6_isBox cX6_isBox 1 (some .boolean), Cond.methodLink RX5 38 yX5_takeBall, Cond.instanceMethod yX5_takeBall, Cond.selects RX5 yX5_takeBall yX5_takeBall, Cond.code yX5_takeBall cX5_takeBall 3 none, Cond.fieldLink RX5 9 "BallBoxes$Strings" "lengths" "[I", Cond.fieldLink RX5 15 "BallBoxes$Strings" "riggings" "[I", Cond.methodLink RX5 68 yX5_longestTight]
def wsX5_readFrom_r2 : List Cond := [Cond.instanceMethod yX5_longestTight, Cond.selects RX5 yX5_longestTight yX5_longestTight, Cond.code yX5_longestTight cX5_longestTight 4 (some .int), Cond.methodLink RX5 93 yX5_isTight, Cond.instanceMethod yX5_isTight, Cond.selects RX5 yX5_isTight yX5_isTight, Cond.code yX5_isTight cX5_isTight 3 (some .boolean), Cond.methodLink RX5 87 yX5_riggingOf, Cond.instanceMethod yX5_riggingOf, Cond.selects RX5 yX5_riggingOf yX5_riggingOf, Cond.code yX5_riggingOf cX5_riggingOf 2 (some .int), Cond.methodLink RX5 25 yX5_isString, Cond.instanceMethod yX5_isString, Cond.selects RX5 yX5_isString yX5_isString, Cond.code yX5_isString cX5_isString 2 (some .boolean), Cond.methodLink RX5 90 yX5_lengthOf, Cond.instanceMethod yX5_lengthOf, Cond.selects RX5 yX5_lengthOf yX5_lengthOf, Cond.code yX5_lengthOf cX5_lengthOf 2 (some .int), Cond.methodLink RX5 58 yX5_roomLeft, Cond.instanceMethod yX5_roomLeft, Cond.selects RX5 yX5_roomLeft yX5_roomLeft, Cond.code yX5_roomLeft cX5_roomLeft 3 (some .int), Cond.methodLink RX5 71 yX5_addString]
def wsX5_readFrom_r3 : List Cond := [Cond.instanceMethod yX5_addString, Cond.selects RX5 yX5_addString yX5_addString, Cond.code yX5_addString cX5_addString 1 (some .int), Cond.methodLink RX5 75 yX5_addToSums, Cond.instanceMethod yX5_addToSums, Cond.selects RX5 yX5_addToSums yX5_addToSums, Cond.code yX5_addToSums cX5_addToSums 4 none, Cond.methodLink RX5 84 Lib.Math.max.name, Cond.static Lib.Math.max.name, Cond.initialized "java/lang/Math", Cond.code Lib.Math.max.name Lib.Math.max.code 2 (some .int)]
def wsX5_readFrom : List Cond := .code yX5_readFrom cX5_readFrom 4 none :: ((wsX5_readFrom_r1 ++ (wsX5_readFrom_r2 ++ wsX5_readFrom_r3)) ++ wsX50 ++ wsX30)
def wsX5_shortestTight_r1 : List Cond := [Cond.fieldLink RX5 21 "BallBoxes$Strings" "size" "I", Cond.fieldLink RX5 9 "BallBoxes$Strings" "lengths" "[I", Cond.methodLink RX5 93 yX5_isTight, Cond.instanceMethod yX5_isTight, Cond.selects RX5 yX5_isTight yX5_isTight, Cond.initialized RX5, Cond.code yX5_isTight cX5_isTight 3 (some .boolean), Cond.methodLink RX5 87 yX5_riggingOf, Cond.instanceMethod yX5_riggingOf, Cond.selects RX5 yX5_riggingOf yX5_riggingOf, Cond.code yX5_riggingOf cX5_riggingOf 2 (some .int), Cond.fieldLink RX5 15 "BallBoxes$Strings" "riggings" "[I", Cond.methodLink RX5 25 yX5_isString, Cond.instanceMethod yX5_isString, Cond.selects RX5 yX5_isString yX5_isString, Cond.code yX5_isString cX5_isString 2 (some .boolean), Cond.methodLink RX5 90 yX5_lengthOf, Cond.instanceMethod yX5_lengthOf, Cond.selects RX5 yX5_lengthOf yX5_lengthOf, Cond.code yX5_lengthOf cX5_lengthOf 2 (some .int), Cond.methodLink RX5 58 yX5_roomLeft, Cond.instanceMethod yX5_roomLeft, Cond.selects RX5 yX5_roomLeft yX5_roomLeft, Cond.code yX5_roomLeft cX5_roomLeft 3 (some .int)]
def wsX5_shortestTight_r2 : List Cond := [Cond.fieldLink RX5 18 "BallBoxes$Strings" "lesserSums" "[I"]
def wsX5_shortestTight : List Cond := .code yX5_shortestTight cX5_shortestTight 4 (some .int) :: ((wsX5_shortestTight_r1 ++ wsX5_shortestTight_r2) ++ wsX50)
def wsX5_swap : List Cond := .code yX5_swap cX5_swap 5 none :: ([.fieldLink RX5 9 "BallBoxes$Strings" "lengths" "[I", .fieldLink RX5 15 "BallBoxes$Strings" "riggings" "[I", .methodLink RX5 25 yX5_isString, .instanceMethod yX5_isString, .selects RX5 yX5_isString yX5_isString, .initialized RX5, .code yX5_isString cX5_isString 2 (some .boolean), .fieldLink RX5 21 "BallBoxes$Strings" "size" "I"] ++ wsX50)
def wsX5_removeString : List Cond := .code yX5_removeString cX5_removeString 2 none :: ([.fieldLink RX5 21 "BallBoxes$Strings" "size" "I", .methodLink RX5 65 yX5_swap, .instanceMethod yX5_swap, .selects RX5 yX5_swap yX5_swap, .initialized RX5, .code yX5_swap cX5_swap 5 none, .fieldLink RX5 9 "BallBoxes$Strings" "lengths" "[I", .fieldLink RX5 15 "BallBoxes$Strings" "riggings" "[I", .methodLink RX5 25 yX5_isString, .instanceMethod yX5_isString, .selects RX5 yX5_isString yX5_isString, .code yX5_isString cX5_isString 2 (some .boolean)] ++ wsX50)
def wsX5_giveBall_r1 : List Cond := [Cond.fieldLink RX5 9 "BallBoxes$Strings" "lengths" "[I", Cond.fieldLink RX5 15 "BallBoxes$Strings" "riggings" "[I", Cond.methodLink RX5 78 yX5_shortestTight, Cond.instanceMethod yX5_shortestTight, Cond.selects RX5 yX5_shortestTight yX5_shortestTight, Cond.initialized RX5, Cond.code yX5_shortestTight cX5_shortestTight 4 (some .int), Cond.fieldLink RX5 21 "BallBoxes$Strings" "size" "I", Cond.methodLink RX5 93 yX5_isTight, Cond.instanceMethod yX5_isTight, Cond.selects RX5 yX5_isTight yX5_isTight, Cond.code yX5_isTight cX5_isTight 3 (some .boolean), Cond.methodLink RX5 87 yX5_riggingOf, Cond.instanceMethod yX5_riggingOf, Cond.selects RX5 yX5_riggingOf yX5_riggingOf, Cond.code yX5_riggingOf cX5_riggingOf 2 (some .int), Cond.methodLink RX5 25 yX5_isString, Cond.instanceMethod yX5_isString, Cond.selects RX5 yX5_isString yX5_isString, Cond.code yX5_isString cX5_isString 2 (some .boolean), Cond.methodLink RX5 90 yX5_lengthOf, Cond.instanceMethod yX5_lengthOf, Cond.selects RX5 yX5_lengthOf yX5_lengthOf, Cond.code yX5_lengthOf cX5_lengthOf 2 (some .int)]
def wsX5_giveBall_r2 : List Cond := [Cond.methodLink RX5 58 yX5_roomLeft, Cond.instanceMethod yX5_roomLeft, Cond.selects RX5 yX5_roomLeft yX5_roomLeft, Cond.code yX5_roomLeft cX5_roomLeft 3 (some .int), Cond.fieldLink RX5 18 "BallBoxes$Strings" "lesserSums" "[I", Cond.methodLink RX5 75 yX5_addToSums, Cond.instanceMethod yX5_addToSums, Cond.selects RX5 yX5_addToSums yX5_addToSums, Cond.code yX5_addToSums cX5_addToSums 4 none, Cond.methodLink RX5 84 Lib.Math.max.name, Cond.static Lib.Math.max.name, Cond.initialized "java/lang/Math", Cond.code Lib.Math.max.name Lib.Math.max.code 2 (some .int), Cond.methodLink RX5 81 yX5_removeString, Cond.instanceMethod yX5_removeString, Cond.selects RX5 yX5_removeString yX5_removeString, Cond.code yX5_removeString cX5_removeString 2 none, Cond.methodLink RX5 65 yX5_swap, Cond.instanceMethod yX5_swap, Cond.selects RX5 yX5_swap yX5_swap, Cond.code yX5_swap cX5_swap 5 none]
def wsX5_giveBall : List Cond := .code yX5_giveBall cX5_giveBall 3 (some .int) :: ((wsX5_giveBall_r1 ++ wsX5_giveBall_r2) ++ wsX50)
def wsX5_makeInto_r1 : List Cond := [Cond.fieldLink RX5 21 "BallBoxes$Strings" "size" "I", Cond.methodLink RX5 45 yX5_giveBall, Cond.instanceMethod yX5_giveBall, Cond.selects RX5 yX5_giveBall yX5_giveBall, Cond.initialized RX5, Cond.code yX5_giveBall cX5_giveBall 3 (some .int), Cond.fieldLink RX5 9 "BallBoxes$Strings" "lengths" "[I", Cond.fieldLink RX5 15 "BallBoxes$Strings" "riggings" "[I", Cond.methodLink RX5 78 yX5_shortestTight, Cond.instanceMethod yX5_shortestTight, Cond.selects RX5 yX5_shortestTight yX5_shortestTight, Cond.code yX5_shortestTight cX5_shortestTight 4 (some .int), Cond.methodLink RX5 93 yX5_isTight, Cond.instanceMethod yX5_isTight, Cond.selects RX5 yX5_isTight yX5_isTight, Cond.code yX5_isTight cX5_isTight 3 (some .boolean), Cond.methodLink RX5 87 yX5_riggingOf, Cond.instanceMethod yX5_riggingOf, Cond.selects RX5 yX5_riggingOf yX5_riggingOf, Cond.code yX5_riggingOf cX5_riggingOf 2 (some .int), Cond.methodLink RX5 25 yX5_isString, Cond.instanceMethod yX5_isString, Cond.selects RX5 yX5_isString yX5_isString, Cond.code yX5_isString cX5_isString 2 (some .boolean)]
def wsX5_makeInto_r2 : List Cond := [Cond.methodLink RX5 90 yX5_lengthOf, Cond.instanceMethod yX5_lengthOf, Cond.selects RX5 yX5_lengthOf yX5_lengthOf, Cond.code yX5_lengthOf cX5_lengthOf 2 (some .int), Cond.methodLink RX5 58 yX5_roomLeft, Cond.instanceMethod yX5_roomLeft, Cond.selects RX5 yX5_roomLeft yX5_roomLeft, Cond.code yX5_roomLeft cX5_roomLeft 3 (some .int), Cond.fieldLink RX5 18 "BallBoxes$Strings" "lesserSums" "[I", Cond.methodLink RX5 75 yX5_addToSums, Cond.instanceMethod yX5_addToSums, Cond.selects RX5 yX5_addToSums yX5_addToSums, Cond.code yX5_addToSums cX5_addToSums 4 none, Cond.methodLink RX5 84 Lib.Math.max.name, Cond.static Lib.Math.max.name, Cond.initialized "java/lang/Math", Cond.code Lib.Math.max.name Lib.Math.max.code 2 (some .int), Cond.methodLink RX5 81 yX5_removeString, Cond.instanceMethod yX5_removeString, Cond.selects RX5 yX5_removeString yX5_removeString, Cond.code yX5_removeString cX5_removeString 2 none, Cond.methodLink RX5 65 yX5_swap, Cond.instanceMethod yX5_swap, Cond.selects RX5 yX5_swap yX5_swap]
def wsX5_makeInto_r3 : List Cond := [Cond.code yX5_swap cX5_swap 5 none, Cond.methodLink RX5 48 yX3_makeBox, Cond.instanceMethod yX3_makeBox, Cond.selects RX3 yX3_makeBox yX3_makeBox, Cond.initialized RX3, Cond.code yX3_makeBox cX3_makeBox 3 none, Cond.fieldLink RX3 15 "BallBoxes$Row" "made" "[I", Cond.static yX6_isBox, Cond.initialized RX6, Cond.code yX6_isBox cX6_isBox 1 (some .boolean)]
def wsX5_makeInto : List Cond := .code yX5_makeInto cX5_makeInto 3 (some .boolean) :: ((wsX5_makeInto_r1 ++ (wsX5_makeInto_r2 ++ wsX5_makeInto_r3)) ++ wsX50 ++ wsX30)
def wsX5_addToRiggings : List Cond := .code yX5_addToRiggings cX5_addToRiggings 4 none :: ([.fieldLink RX5 21 "BallBoxes$Strings" "size" "I", .fieldLink RX5 15 "BallBoxes$Strings" "riggings" "[I", .fieldLink RX5 9 "BallBoxes$Strings" "lengths" "[I", .methodLink RX5 52 Lib.Math.min.name, .static Lib.Math.min.name, .initialized "java/lang/Math", .code Lib.Math.min.name Lib.Math.min.code 2 (some .int)] ++ wsX50)
def wsX5_haveRoomBehind : List Cond := .code yX5_haveRoomBehind cX5_haveRoomBehind 3 (some .boolean) :: ([.fieldLink RX5 21 "BallBoxes$Strings" "size" "I", .fieldLink RX5 15 "BallBoxes$Strings" "riggings" "[I", .fieldLink RX5 9 "BallBoxes$Strings" "lengths" "[I", .methodLink RX5 58 yX5_roomLeft, .instanceMethod yX5_roomLeft, .selects RX5 yX5_roomLeft yX5_roomLeft, .initialized RX5, .code yX5_roomLeft cX5_roomLeft 3 (some .int), .fieldLink RX5 18 "BallBoxes$Strings" "lesserSums" "[I"] ++ wsX50)
def wsX5_isBehind : List Cond := .code yX5_isBehind cX5_isBehind 3 (some .boolean) :: ([.methodLink RX5 90 yX5_lengthOf, .instanceMethod yX5_lengthOf, .selects RX5 yX5_lengthOf yX5_lengthOf, .initialized RX5, .code yX5_lengthOf cX5_lengthOf 2 (some .int), .fieldLink RX5 9 "BallBoxes$Strings" "lengths" "[I", .methodLink RX5 25 yX5_isString, .instanceMethod yX5_isString, .selects RX5 yX5_isString yX5_isString, .code yX5_isString cX5_isString 2 (some .boolean), .fieldLink RX5 21 "BallBoxes$Strings" "size" "I", .methodLink RX5 87 yX5_riggingOf, .instanceMethod yX5_riggingOf, .selects RX5 yX5_riggingOf yX5_riggingOf, .code yX5_riggingOf cX5_riggingOf 2 (some .int), .fieldLink RX5 15 "BallBoxes$Strings" "riggings" "[I"] ++ wsX50)
def wsX5_sort : List Cond := .code yX5_sort cX5_sort 3 none :: ([.fieldLink RX5 21 "BallBoxes$Strings" "size" "I", .methodLink RX5 61 yX5_isBehind, .instanceMethod yX5_isBehind, .selects RX5 yX5_isBehind yX5_isBehind, .initialized RX5, .code yX5_isBehind cX5_isBehind 3 (some .boolean), .methodLink RX5 90 yX5_lengthOf, .instanceMethod yX5_lengthOf, .selects RX5 yX5_lengthOf yX5_lengthOf, .code yX5_lengthOf cX5_lengthOf 2 (some .int), .fieldLink RX5 9 "BallBoxes$Strings" "lengths" "[I", .methodLink RX5 25 yX5_isString, .instanceMethod yX5_isString, .selects RX5 yX5_isString yX5_isString, .code yX5_isString cX5_isString 2 (some .boolean), .methodLink RX5 87 yX5_riggingOf, .instanceMethod yX5_riggingOf, .selects RX5 yX5_riggingOf yX5_riggingOf, .code yX5_riggingOf cX5_riggingOf 2 (some .int), .fieldLink RX5 15 "BallBoxes$Strings" "riggings" "[I", .methodLink RX5 65 yX5_swap, .instanceMethod yX5_swap, .selects RX5 yX5_swap yX5_swap, .code yX5_swap cX5_swap 5 none] ++ wsX50)
def wsX6_init_r1 : List Cond := [Cond.methodLink RX6 1 objectInit, Cond.instanceMethod objectInit, Cond.code objectInit ⟨#[0xb1]⟩ 1 none, Cond.classLink RX6 7 RX3, Cond.instantiable RX3 2, Cond.initialized RX3, Cond.fieldLink RX6 10 "BallBoxes" "theRow" "LBallBoxes$Row;", Cond.classLink RX6 16 RX0, Cond.instantiable RX0 2, Cond.initialized RX0, Cond.fieldLink RX6 19 "BallBoxes" "pairs" "LBallBoxes$Pairs;", Cond.classLink RX6 23 RX5, Cond.instantiable RX5 5, Cond.initialized RX5, Cond.fieldLink RX6 26 "BallBoxes" "latestStrings" "LBallBoxes$Strings;", Cond.fieldLink RX6 30 "BallBoxes" "leapStrings" "LBallBoxes$Strings;", Cond.classLink RX6 33 RX1, Cond.instantiable RX1 4, Cond.initialized RX1, Cond.fieldLink RX6 36 "BallBoxes" "theRing" "LBallBoxes$Ring;", Cond.classLink RX6 40 RX2, Cond.instantiable RX2 2, Cond.initialized RX2, Cond.fieldLink RX6 43 "BallBoxes" "trial" "LBallBoxes$RingTrial;"]
def wsX6_init_r2 : List Cond := [Cond.classLink RX6 47 RX4, Cond.fieldLink RX6 49 "BallBoxes" "sheets" "[LBallBoxes$Sheet;", Cond.instantiable RX4 4, Cond.initialized RX4, Cond.instanceMethod yX3_init, Cond.code yX3_init cX3_init 1 none, Cond.methodLink RX3 3 objectInit, Cond.arrayClass .int, Cond.fieldLink RX3 9 "BallBoxes$Row" "boxes" "[I", Cond.fieldLink RX3 15 "BallBoxes$Row" "made" "[I", Cond.instanceMethod yX0_init, Cond.code yX0_init cX0_init 1 none, Cond.methodLink RX0 3 objectInit, Cond.fieldLink RX0 9 "BallBoxes$Pairs" "left" "[I", Cond.instanceMethod yX5_init, Cond.code yX5_init cX5_init 1 none, Cond.methodLink RX5 3 objectInit, Cond.fieldLink RX5 9 "BallBoxes$Strings" "lengths" "[I", Cond.fieldLink RX5 15 "BallBoxes$Strings" "riggings" "[I", Cond.fieldLink RX5 18 "BallBoxes$Strings" "lesserSums" "[I", Cond.instanceMethod yX1_init, Cond.code yX1_init cX1_init 1 none, Cond.methodLink RX1 1 objectInit, Cond.fieldLink RX1 7 "BallBoxes$Ring" "size" "I"]
def wsX6_init_r3 : List Cond := [Cond.instanceMethod yX2_init, Cond.code yX2_init cX2_init 1 none, Cond.methodLink RX2 3 objectInit, Cond.classLink RX2 9 RX1, Cond.fieldLink RX2 12 "BallBoxes$RingTrial" "ring" "LBallBoxes$Ring;", Cond.arrayClass .long, Cond.fieldLink RX2 18 "BallBoxes$RingTrial" "seen" "[J", Cond.instanceMethod yX4_init, Cond.code yX4_init cX4_init 1 none, Cond.methodLink RX4 3 objectInit, Cond.fieldLink RX4 9 "BallBoxes$Sheet" "items" "[I", Cond.fieldLink RX4 15 "BallBoxes$Sheet" "lost" "Z"]
def wsX6_init : List Cond := .code yX6_init cX6_init 2 none :: ((wsX6_init_r1 ++ (wsX6_init_r2 ++ wsX6_init_r3)) ++ wsX30 ++ wsX60 ++ wsX00 ++ wsX50 ++ wsX10 ++ wsX20 ++ wsX40)
def wsX6_set : List Cond := .code yX6_set cX6_set 4 (some .int) :: ([.fieldLink RX6 10 "BallBoxes" "theRow" "LBallBoxes$Row;", .methodLink RX6 54 yX6_isBox, .static yX6_isBox, .initialized RX6, .code yX6_isBox cX6_isBox 1 (some .boolean), .methodLink RX6 58 yX3_ballAt, .instanceMethod yX3_ballAt, .selects RX3 yX3_ballAt yX3_ballAt, .initialized RX3, .code yX3_ballAt cX3_ballAt 2 (some .int), .fieldLink RX3 9 "BallBoxes$Row" "boxes" "[I", .methodLink RX6 62 yX3_place, .instanceMethod yX3_place, .selects RX3 yX3_place yX3_place, .code yX3_place cX3_place 3 none] ++ wsX60 ++ wsX30)
def wsX6_at : List Cond := .code yX6_at cX6_at 2 (some .int) :: ([.fieldLink RX6 10 "BallBoxes" "theRow" "LBallBoxes$Row;", .methodLink RX6 54 yX6_isBox, .static yX6_isBox, .initialized RX6, .code yX6_isBox cX6_isBox 1 (some .boolean), .methodLink RX6 58 yX3_ballAt, .instanceMethod yX3_ballAt, .selects RX3 yX3_ballAt yX3_ballAt, .initialized RX3, .code yX3_ballAt cX3_ballAt 2 (some .int), .fieldLink RX3 9 "BallBoxes$Row" "boxes" "[I"] ++ wsX60 ++ wsX30)
def wsX6_empty : List Cond := .code yX6_empty cX6_empty 2 (some .int) :: ([.fieldLink RX6 10 "BallBoxes" "theRow" "LBallBoxes$Row;", .methodLink RX6 66 yX3_balls, .instanceMethod yX3_balls, .selects RX3 yX3_balls yX3_balls, .initialized RX3, .code yX3_balls cX3_balls 3 (some .int), .fieldLink RX3 9 "BallBoxes$Row" "boxes" "[I", .methodLink RX6 70 yX3_clear, .instanceMethod yX3_clear, .selects RX3 yX3_clear yX3_clear, .code yX3_clear cX3_clear 2 none] ++ wsX60 ++ wsX30)
def wsX6_isRoom : List Cond := .code yX6_isRoom cX6_isRoom 1 (some .boolean) :: ([])
def wsX6_carry_r1 : List Cond := [Cond.fieldLink RX6 10 "BallBoxes" "theRow" "LBallBoxes$Row;", Cond.fieldLink RX6 134 "BallBoxes" "moves" "I", Cond.methodLink RX6 237 yX3_makeByCarrier, Cond.instanceMethod yX3_makeByCarrier, Cond.selects RX3 yX3_makeByCarrier yX3_makeByCarrier, Cond.initialized RX3, Cond.code yX3_makeByCarrier cX3_makeByCarrier 8 (some .int), Cond.methodLink RX3 22 yX3_ballAt, Cond.instanceMethod yX3_ballAt, Cond.selects RX3 yX3_ballAt yX3_ballAt, Cond.code yX3_ballAt cX3_ballAt 2 (some .int), Cond.fieldLink RX3 9 "BallBoxes$Row" "boxes" "[I", Cond.static yX6_isBox, Cond.initialized RX6, Cond.code yX6_isBox cX6_isBox 1 (some .boolean), Cond.static yX6_loadBehind, Cond.code yX6_loadBehind cX6_loadBehind 3 (some .int), Cond.methodLink RX3 30 yX3_makeBox, Cond.instanceMethod yX3_makeBox, Cond.selects RX3 yX3_makeBox yX3_makeBox, Cond.code yX3_makeBox cX3_makeBox 3 none, Cond.fieldLink RX3 15 "BallBoxes$Row" "made" "[I", Cond.methodLink RX6 137 yX3_becomeMade, Cond.instanceMethod yX3_becomeMade]
def wsX6_carry_r2 : List Cond := [Cond.selects RX3 yX3_becomeMade yX3_becomeMade, Cond.code yX3_becomeMade cX3_becomeMade 3 (some .int)]
def wsX6_carry : List Cond := .code yX6_carry cX6_carry 3 (some .int) :: ((wsX6_carry_r1 ++ wsX6_carry_r2) ++ wsX60 ++ wsX30)
def wsX6_step_r1 : List Cond := [Cond.methodLink RX6 73 yX6_isRoom, Cond.static yX6_isRoom, Cond.initialized RX6, Cond.code yX6_isRoom cX6_isRoom 1 (some .boolean), Cond.methodLink RX6 76 yX6_carry, Cond.instanceMethod yX6_carry, Cond.selects RX6 yX6_carry yX6_carry, Cond.code yX6_carry cX6_carry 3 (some .int), Cond.fieldLink RX6 10 "BallBoxes" "theRow" "LBallBoxes$Row;", Cond.fieldLink RX6 134 "BallBoxes" "moves" "I", Cond.methodLink RX6 237 yX3_makeByCarrier, Cond.instanceMethod yX3_makeByCarrier, Cond.selects RX3 yX3_makeByCarrier yX3_makeByCarrier, Cond.initialized RX3, Cond.code yX3_makeByCarrier cX3_makeByCarrier 8 (some .int), Cond.methodLink RX3 22 yX3_ballAt, Cond.instanceMethod yX3_ballAt, Cond.selects RX3 yX3_ballAt yX3_ballAt, Cond.code yX3_ballAt cX3_ballAt 2 (some .int), Cond.fieldLink RX3 9 "BallBoxes$Row" "boxes" "[I", Cond.static yX6_isBox, Cond.code yX6_isBox cX6_isBox 1 (some .boolean), Cond.static yX6_loadBehind, Cond.code yX6_loadBehind cX6_loadBehind 3 (some .int)]
def wsX6_step_r2 : List Cond := [Cond.methodLink RX3 30 yX3_makeBox, Cond.instanceMethod yX3_makeBox, Cond.selects RX3 yX3_makeBox yX3_makeBox, Cond.code yX3_makeBox cX3_makeBox 3 none, Cond.fieldLink RX3 15 "BallBoxes$Row" "made" "[I", Cond.methodLink RX6 137 yX3_becomeMade, Cond.instanceMethod yX3_becomeMade, Cond.selects RX3 yX3_becomeMade yX3_becomeMade, Cond.code yX3_becomeMade cX3_becomeMade 3 (some .int)]
def wsX6_step : List Cond := .code yX6_step cX6_step 2 (some .int) :: ((wsX6_step_r1 ++ wsX6_step_r2) ++ wsX60 ++ wsX30)
def wsX6_back_r1 : List Cond := [Cond.methodLink RX6 73 yX6_isRoom, Cond.static yX6_isRoom, Cond.initialized RX6, Cond.code yX6_isRoom cX6_isRoom 1 (some .boolean), Cond.methodLink RX6 76 yX6_carry, Cond.instanceMethod yX6_carry, Cond.selects RX6 yX6_carry yX6_carry, Cond.code yX6_carry cX6_carry 3 (some .int), Cond.fieldLink RX6 10 "BallBoxes" "theRow" "LBallBoxes$Row;", Cond.fieldLink RX6 134 "BallBoxes" "moves" "I", Cond.methodLink RX6 237 yX3_makeByCarrier, Cond.instanceMethod yX3_makeByCarrier, Cond.selects RX3 yX3_makeByCarrier yX3_makeByCarrier, Cond.initialized RX3, Cond.code yX3_makeByCarrier cX3_makeByCarrier 8 (some .int), Cond.methodLink RX3 22 yX3_ballAt, Cond.instanceMethod yX3_ballAt, Cond.selects RX3 yX3_ballAt yX3_ballAt, Cond.code yX3_ballAt cX3_ballAt 2 (some .int), Cond.fieldLink RX3 9 "BallBoxes$Row" "boxes" "[I", Cond.static yX6_isBox, Cond.code yX6_isBox cX6_isBox 1 (some .boolean), Cond.static yX6_loadBehind, Cond.code yX6_loadBehind cX6_loadBehind 3 (some .int)]
def wsX6_back_r2 : List Cond := [Cond.methodLink RX3 30 yX3_makeBox, Cond.instanceMethod yX3_makeBox, Cond.selects RX3 yX3_makeBox yX3_makeBox, Cond.code yX3_makeBox cX3_makeBox 3 none, Cond.fieldLink RX3 15 "BallBoxes$Row" "made" "[I", Cond.methodLink RX6 137 yX3_becomeMade, Cond.instanceMethod yX3_becomeMade, Cond.selects RX3 yX3_becomeMade yX3_becomeMade, Cond.code yX3_becomeMade cX3_becomeMade 3 (some .int)]
def wsX6_back : List Cond := .code yX6_back cX6_back 2 (some .int) :: ((wsX6_back_r1 ++ wsX6_back_r2) ++ wsX60 ++ wsX30)
def wsX6_kept : List Cond := .code yX6_kept cX6_kept 2 (some .int) :: ([.fieldLink RX6 10 "BallBoxes" "theRow" "LBallBoxes$Row;", .methodLink RX6 73 yX6_isRoom, .static yX6_isRoom, .initialized RX6, .code yX6_isRoom cX6_isRoom 1 (some .boolean), .methodLink RX6 80 yX3_takenBy, .instanceMethod yX3_takenBy, .selects RX3 yX3_takenBy yX3_takenBy, .initialized RX3, .code yX3_takenBy cX3_takenBy 6 (some .int), .fieldLink RX3 9 "BallBoxes$Row" "boxes" "[I", .static yX6_loadBehind, .code yX6_loadBehind cX6_loadBehind 3 (some .int)] ++ wsX60 ++ wsX30)
def wsX6_row_r1 : List Cond := [Cond.fieldLink RX6 10 "BallBoxes" "theRow" "LBallBoxes$Row;", Cond.fieldLink RX6 19 "BallBoxes" "pairs" "LBallBoxes$Pairs;", Cond.methodLink RX6 66 yX3_balls, Cond.instanceMethod yX3_balls, Cond.selects RX3 yX3_balls yX3_balls, Cond.initialized RX3, Cond.code yX3_balls cX3_balls 3 (some .int), Cond.fieldLink RX3 9 "BallBoxes$Row" "boxes" "[I", Cond.methodLink RX6 83 yX3_firstBall, Cond.instanceMethod yX3_firstBall, Cond.selects RX3 yX3_firstBall yX3_firstBall, Cond.code yX3_firstBall cX3_firstBall 2 (some .int), Cond.methodLink RX6 86 yX3_lastBall, Cond.instanceMethod yX3_lastBall, Cond.selects RX3 yX3_lastBall yX3_lastBall, Cond.code yX3_lastBall cX3_lastBall 2 (some .int), Cond.methodLink RX6 89 yX0_heapsOf, Cond.instanceMethod yX0_heapsOf, Cond.selects RX0 yX0_heapsOf yX0_heapsOf, Cond.initialized RX0, Cond.code yX0_heapsOf cX0_heapsOf 2 (some .int), Cond.methodLink RX0 15 yX0_begin, Cond.instanceMethod yX0_begin, Cond.selects RX0 yX0_begin yX0_begin]
def wsX6_row_r2 : List Cond := [Cond.code yX0_begin cX0_begin 3 none, Cond.fieldLink RX0 9 "BallBoxes$Pairs" "left" "[I", Cond.fieldLink RX0 29 "BallBoxes$Pairs" "size" "I", Cond.methodLink RX0 23 yX3_ballAt, Cond.instanceMethod yX3_ballAt, Cond.selects RX3 yX3_ballAt yX3_ballAt, Cond.code yX3_ballAt cX3_ballAt 2 (some .int), Cond.static yX6_isBox, Cond.initialized RX6, Cond.code yX6_isBox cX6_isBox 1 (some .boolean), Cond.methodLink RX0 19 yX0_takeOut, Cond.instanceMethod yX0_takeOut, Cond.selects RX0 yX0_takeOut yX0_takeOut, Cond.code yX0_takeOut cX0_takeOut 6 (some .int)]
def wsX6_row : List Cond := .code yX6_row cX6_row 2 (some .int) :: ((wsX6_row_r1 ++ wsX6_row_r2) ++ wsX60 ++ wsX30 ++ wsX00)
def wsX6_heap_r1 : List Cond := [Cond.fieldLink RX6 19 "BallBoxes" "pairs" "LBallBoxes$Pairs;", Cond.fieldLink RX6 10 "BallBoxes" "theRow" "LBallBoxes$Row;", Cond.methodLink RX6 93 yX0_countsAbove, Cond.instanceMethod yX0_countsAbove, Cond.selects RX0 yX0_countsAbove yX0_countsAbove, Cond.initialized RX0, Cond.code yX0_countsAbove cX0_countsAbove 5 (some .int), Cond.methodLink RX0 15 yX0_begin, Cond.instanceMethod yX0_begin, Cond.selects RX0 yX0_begin yX0_begin, Cond.code yX0_begin cX0_begin 3 none, Cond.fieldLink RX0 9 "BallBoxes$Pairs" "left" "[I", Cond.fieldLink RX0 29 "BallBoxes$Pairs" "size" "I", Cond.methodLink RX0 23 yX3_ballAt, Cond.instanceMethod yX3_ballAt, Cond.selects RX3 yX3_ballAt yX3_ballAt, Cond.initialized RX3, Cond.code yX3_ballAt cX3_ballAt 2 (some .int), Cond.fieldLink RX3 9 "BallBoxes$Row" "boxes" "[I", Cond.static yX6_isBox, Cond.initialized RX6, Cond.code yX6_isBox cX6_isBox 1 (some .boolean), Cond.methodLink RX0 19 yX0_takeOut, Cond.instanceMethod yX0_takeOut]
def wsX6_heap_r2 : List Cond := [Cond.selects RX0 yX0_takeOut yX0_takeOut, Cond.code yX0_takeOut cX0_takeOut 6 (some .int)]
def wsX6_heap : List Cond := .code yX6_heap cX6_heap 3 (some .int) :: ((wsX6_heap_r1 ++ wsX6_heap_r2) ++ wsX60 ++ wsX00 ++ wsX30)
def wsX6_strings_r1 : List Cond := [Cond.fieldLink RX6 26 "BallBoxes" "latestStrings" "LBallBoxes$Strings;", Cond.fieldLink RX6 10 "BallBoxes" "theRow" "LBallBoxes$Row;", Cond.methodLink RX6 97 yX5_readFrom, Cond.instanceMethod yX5_readFrom, Cond.selects RX5 yX5_readFrom yX5_readFrom, Cond.initialized RX5, Cond.code yX5_readFrom cX5_readFrom 4 none, Cond.fieldLink RX5 42 "BallBoxes$Strings" "boxesRead" "I", Cond.methodLink RX5 29 yX5_clear, Cond.instanceMethod yX5_clear, Cond.selects RX5 yX5_clear yX5_clear, Cond.code yX5_clear cX5_clear 2 none, Cond.fieldLink RX5 21 "BallBoxes$Strings" "size" "I", Cond.fieldLink RX5 18 "BallBoxes$Strings" "lesserSums" "[I", Cond.methodLink RX5 32 yX3_ballAt, Cond.instanceMethod yX3_ballAt, Cond.selects RX3 yX3_ballAt yX3_ballAt, Cond.initialized RX3, Cond.code yX3_ballAt cX3_ballAt 2 (some .int), Cond.fieldLink RX3 9 "BallBoxes$Row" "boxes" "[I", Cond.static yX6_isBox, Cond.initialized RX6, Cond.code yX6_isBox cX6_isBox 1 (some .boolean), Cond.methodLink RX5 38 yX5_takeBall]
def wsX6_strings_r2 : List Cond := [Cond.instanceMethod yX5_takeBall, Cond.selects RX5 yX5_takeBall yX5_takeBall, Cond.code yX5_takeBall cX5_takeBall 3 none, Cond.fieldLink RX5 9 "BallBoxes$Strings" "lengths" "[I", Cond.fieldLink RX5 15 "BallBoxes$Strings" "riggings" "[I", Cond.methodLink RX5 68 yX5_longestTight, Cond.instanceMethod yX5_longestTight, Cond.selects RX5 yX5_longestTight yX5_longestTight, Cond.code yX5_longestTight cX5_longestTight 4 (some .int), Cond.methodLink RX5 93 yX5_isTight, Cond.instanceMethod yX5_isTight, Cond.selects RX5 yX5_isTight yX5_isTight, Cond.code yX5_isTight cX5_isTight 3 (some .boolean), Cond.methodLink RX5 87 yX5_riggingOf, Cond.instanceMethod yX5_riggingOf, Cond.selects RX5 yX5_riggingOf yX5_riggingOf, Cond.code yX5_riggingOf cX5_riggingOf 2 (some .int), Cond.methodLink RX5 25 yX5_isString, Cond.instanceMethod yX5_isString, Cond.selects RX5 yX5_isString yX5_isString, Cond.code yX5_isString cX5_isString 2 (some .boolean), Cond.methodLink RX5 90 yX5_lengthOf, Cond.instanceMethod yX5_lengthOf, Cond.selects RX5 yX5_lengthOf yX5_lengthOf]
def wsX6_strings_r3 : List Cond := [Cond.code yX5_lengthOf cX5_lengthOf 2 (some .int), Cond.methodLink RX5 58 yX5_roomLeft, Cond.instanceMethod yX5_roomLeft, Cond.selects RX5 yX5_roomLeft yX5_roomLeft, Cond.code yX5_roomLeft cX5_roomLeft 3 (some .int), Cond.methodLink RX5 71 yX5_addString, Cond.instanceMethod yX5_addString, Cond.selects RX5 yX5_addString yX5_addString, Cond.code yX5_addString cX5_addString 1 (some .int), Cond.methodLink RX5 75 yX5_addToSums, Cond.instanceMethod yX5_addToSums, Cond.selects RX5 yX5_addToSums yX5_addToSums, Cond.code yX5_addToSums cX5_addToSums 4 none, Cond.methodLink RX5 84 Lib.Math.max.name, Cond.static Lib.Math.max.name, Cond.initialized "java/lang/Math", Cond.code Lib.Math.max.name Lib.Math.max.code 2 (some .int), Cond.methodLink RX6 101 yX5_sort, Cond.instanceMethod yX5_sort, Cond.selects RX5 yX5_sort yX5_sort, Cond.code yX5_sort cX5_sort 3 none, Cond.methodLink RX5 61 yX5_isBehind, Cond.instanceMethod yX5_isBehind, Cond.selects RX5 yX5_isBehind yX5_isBehind]
def wsX6_strings_r4 : List Cond := [Cond.code yX5_isBehind cX5_isBehind 3 (some .boolean), Cond.methodLink RX5 65 yX5_swap, Cond.instanceMethod yX5_swap, Cond.selects RX5 yX5_swap yX5_swap, Cond.code yX5_swap cX5_swap 5 none]
def wsX6_strings : List Cond := .code yX6_strings cX6_strings 2 (some .int) :: ((wsX6_strings_r1 ++ (wsX6_strings_r2 ++ (wsX6_strings_r3 ++ wsX6_strings_r4))) ++ wsX60 ++ wsX50 ++ wsX30)
def wsX6_string : List Cond := .code yX6_string cX6_string 3 (some .int) :: ([.fieldLink RX6 26 "BallBoxes" "latestStrings" "LBallBoxes$Strings;", .methodLink RX6 108 yX5_isString, .instanceMethod yX5_isString, .selects RX5 yX5_isString yX5_isString, .initialized RX5, .code yX5_isString cX5_isString 2 (some .boolean), .fieldLink RX5 21 "BallBoxes$Strings" "size" "I", .methodLink RX6 111 yX5_lengthOf, .instanceMethod yX5_lengthOf, .selects RX5 yX5_lengthOf yX5_lengthOf, .code yX5_lengthOf cX5_lengthOf 2 (some .int), .fieldLink RX5 9 "BallBoxes$Strings" "lengths" "[I", .methodLink RX5 25 yX5_isString, .methodLink RX6 114 yX5_riggingOf, .instanceMethod yX5_riggingOf, .selects RX5 yX5_riggingOf yX5_riggingOf, .code yX5_riggingOf cX5_riggingOf 2 (some .int), .fieldLink RX5 15 "BallBoxes$Strings" "riggings" "[I", .methodLink RX6 120 yX5_roomLeft, .instanceMethod yX5_roomLeft, .selects RX5 yX5_roomLeft yX5_roomLeft, .code yX5_roomLeft cX5_roomLeft 3 (some .int), .fieldLink RX5 18 "BallBoxes$Strings" "lesserSums" "[I"] ++ wsX60 ++ wsX50)
def wsX6_leap_r1 : List Cond := [Cond.fieldLink RX6 30 "BallBoxes" "leapStrings" "LBallBoxes$Strings;", Cond.fieldLink RX6 10 "BallBoxes" "theRow" "LBallBoxes$Row;", Cond.fieldLink RX6 134 "BallBoxes" "moves" "I", Cond.methodLink RX6 73 yX6_isRoom, Cond.static yX6_isRoom, Cond.initialized RX6, Cond.code yX6_isRoom cX6_isRoom 1 (some .boolean), Cond.methodLink RX6 97 yX5_readFrom, Cond.instanceMethod yX5_readFrom, Cond.selects RX5 yX5_readFrom yX5_readFrom, Cond.initialized RX5, Cond.code yX5_readFrom cX5_readFrom 4 none, Cond.fieldLink RX5 42 "BallBoxes$Strings" "boxesRead" "I", Cond.methodLink RX5 29 yX5_clear, Cond.instanceMethod yX5_clear, Cond.selects RX5 yX5_clear yX5_clear, Cond.code yX5_clear cX5_clear 2 none, Cond.fieldLink RX5 21 "BallBoxes$Strings" "size" "I", Cond.fieldLink RX5 18 "BallBoxes$Strings" "lesserSums" "[I", Cond.methodLink RX5 32 yX3_ballAt, Cond.instanceMethod yX3_ballAt, Cond.selects RX3 yX3_ballAt yX3_ballAt, Cond.initialized RX3, Cond.code yX3_ballAt cX3_ballAt 2 (some .int)]
def wsX6_leap_r2 : List Cond := [Cond.fieldLink RX3 9 "BallBoxes$Row" "boxes" "[I", Cond.static yX6_isBox, Cond.code yX6_isBox cX6_isBox 1 (some .boolean), Cond.methodLink RX5 38 yX5_takeBall, Cond.instanceMethod yX5_takeBall, Cond.selects RX5 yX5_takeBall yX5_takeBall, Cond.code yX5_takeBall cX5_takeBall 3 none, Cond.fieldLink RX5 9 "BallBoxes$Strings" "lengths" "[I", Cond.fieldLink RX5 15 "BallBoxes$Strings" "riggings" "[I", Cond.methodLink RX5 68 yX5_longestTight, Cond.instanceMethod yX5_longestTight, Cond.selects RX5 yX5_longestTight yX5_longestTight, Cond.code yX5_longestTight cX5_longestTight 4 (some .int), Cond.methodLink RX5 93 yX5_isTight, Cond.instanceMethod yX5_isTight, Cond.selects RX5 yX5_isTight yX5_isTight, Cond.code yX5_isTight cX5_isTight 3 (some .boolean), Cond.methodLink RX5 87 yX5_riggingOf, Cond.instanceMethod yX5_riggingOf, Cond.selects RX5 yX5_riggingOf yX5_riggingOf, Cond.code yX5_riggingOf cX5_riggingOf 2 (some .int), Cond.methodLink RX5 25 yX5_isString, Cond.instanceMethod yX5_isString, Cond.selects RX5 yX5_isString yX5_isString]
def wsX6_leap_r3 : List Cond := [Cond.code yX5_isString cX5_isString 2 (some .boolean), Cond.methodLink RX5 90 yX5_lengthOf, Cond.instanceMethod yX5_lengthOf, Cond.selects RX5 yX5_lengthOf yX5_lengthOf, Cond.code yX5_lengthOf cX5_lengthOf 2 (some .int), Cond.methodLink RX5 58 yX5_roomLeft, Cond.instanceMethod yX5_roomLeft, Cond.selects RX5 yX5_roomLeft yX5_roomLeft, Cond.code yX5_roomLeft cX5_roomLeft 3 (some .int), Cond.methodLink RX5 71 yX5_addString, Cond.instanceMethod yX5_addString, Cond.selects RX5 yX5_addString yX5_addString, Cond.code yX5_addString cX5_addString 1 (some .int), Cond.methodLink RX5 75 yX5_addToSums, Cond.instanceMethod yX5_addToSums, Cond.selects RX5 yX5_addToSums yX5_addToSums, Cond.code yX5_addToSums cX5_addToSums 4 none, Cond.methodLink RX5 84 Lib.Math.max.name, Cond.static Lib.Math.max.name, Cond.initialized "java/lang/Math", Cond.code Lib.Math.max.name Lib.Math.max.code 2 (some .int), Cond.methodLink RX6 124 yX5_addToRiggings, Cond.instanceMethod yX5_addToRiggings, Cond.selects RX5 yX5_addToRiggings yX5_addToRiggings]
def wsX6_leap_r4 : List Cond := [Cond.code yX5_addToRiggings cX5_addToRiggings 4 none, Cond.methodLink RX5 52 Lib.Math.min.name, Cond.static Lib.Math.min.name, Cond.code Lib.Math.min.name Lib.Math.min.code 2 (some .int), Cond.methodLink RX6 127 yX5_haveRoomBehind, Cond.instanceMethod yX5_haveRoomBehind, Cond.selects RX5 yX5_haveRoomBehind yX5_haveRoomBehind, Cond.code yX5_haveRoomBehind cX5_haveRoomBehind 3 (some .boolean), Cond.methodLink RX6 130 yX5_makeInto, Cond.instanceMethod yX5_makeInto, Cond.selects RX5 yX5_makeInto yX5_makeInto, Cond.code yX5_makeInto cX5_makeInto 3 (some .boolean), Cond.methodLink RX5 45 yX5_giveBall, Cond.instanceMethod yX5_giveBall, Cond.selects RX5 yX5_giveBall yX5_giveBall, Cond.code yX5_giveBall cX5_giveBall 3 (some .int), Cond.methodLink RX5 78 yX5_shortestTight, Cond.instanceMethod yX5_shortestTight, Cond.selects RX5 yX5_shortestTight yX5_shortestTight, Cond.code yX5_shortestTight cX5_shortestTight 4 (some .int), Cond.methodLink RX5 81 yX5_removeString, Cond.instanceMethod yX5_removeString, Cond.selects RX5 yX5_removeString yX5_removeString, Cond.code yX5_removeString cX5_removeString 2 none]
def wsX6_leap_r5 : List Cond := [Cond.methodLink RX5 65 yX5_swap, Cond.instanceMethod yX5_swap, Cond.selects RX5 yX5_swap yX5_swap, Cond.code yX5_swap cX5_swap 5 none, Cond.methodLink RX5 48 yX3_makeBox, Cond.instanceMethod yX3_makeBox, Cond.selects RX3 yX3_makeBox yX3_makeBox, Cond.code yX3_makeBox cX3_makeBox 3 none, Cond.fieldLink RX3 15 "BallBoxes$Row" "made" "[I", Cond.methodLink RX6 137 yX3_becomeMade, Cond.instanceMethod yX3_becomeMade, Cond.selects RX3 yX3_becomeMade yX3_becomeMade, Cond.code yX3_becomeMade cX3_becomeMade 3 (some .int)]
def wsX6_leap : List Cond := .code yX6_leap cX6_leap 3 (some .int) :: ((wsX6_leap_r1 ++ (wsX6_leap_r2 ++ (wsX6_leap_r3 ++ (wsX6_leap_r4 ++ wsX6_leap_r5)))) ++ wsX60 ++ wsX50 ++ wsX30)
def wsJ13_bitCount_95d88 : List Cond := .code yJ13_bitCount_95d88 cJ13_bitCount_95d88 2 (some .int) :: ([.constantLong RJ13 314 (6148914691236517205), .constantLong RJ13 316 (3689348814741910323), .constantLong RJ13 318 (1085102592571150095)])
def wsX6_isFewerThanHalf : List Cond := .code yX6_isFewerThanHalf cX6_isFewerThanHalf 2 (some .boolean) :: ([])
def wsX6_ring_r1 : List Cond := [Cond.fieldLink RX6 10 "BallBoxes" "theRow" "LBallBoxes$Row;", Cond.fieldLink RX6 36 "BallBoxes" "theRing" "LBallBoxes$Ring;", Cond.methodLink RX6 54 yX6_isBox, Cond.static yX6_isBox, Cond.initialized RX6, Cond.code yX6_isBox cX6_isBox 1 (some .boolean), Cond.methodLink RX6 140 yX3_bits, Cond.instanceMethod yX3_bits, Cond.selects RX3 yX3_bits yX3_bits, Cond.initialized RX3, Cond.code yX3_bits cX3_bits 6 (some .long), Cond.methodLink RX3 22 yX3_ballAt, Cond.instanceMethod yX3_ballAt, Cond.selects RX3 yX3_ballAt yX3_ballAt, Cond.code yX3_ballAt cX3_ballAt 2 (some .int), Cond.fieldLink RX3 9 "BallBoxes$Row" "boxes" "[I", Cond.methodLink RX6 144 yJ13_bitCount_95d88, Cond.static yJ13_bitCount_95d88, Cond.initialized RJ13, Cond.code yJ13_bitCount_95d88 cJ13_bitCount_95d88 2 (some .int), Cond.constantLong RJ13 314 (6148914691236517205), Cond.constantLong RJ13 316 (3689348814741910323), Cond.constantLong RJ13 318 (1085102592571150095), Cond.methodLink RX6 150 yX6_isFewerThanHalf]
def wsX6_ring_r2 : List Cond := [Cond.static yX6_isFewerThanHalf, Cond.code yX6_isFewerThanHalf cX6_isFewerThanHalf 2 (some .boolean), Cond.methodLink RX6 154 yX1_become, Cond.instanceMethod yX1_become, Cond.selects RX1 yX1_become yX1_become, Cond.initialized RX1, Cond.code yX1_become cX1_become 4 none, Cond.fieldLink RX1 7 "BallBoxes$Ring" "size" "I", Cond.fieldLink RX1 13 "BallBoxes$Ring" "bits" "J"]
def wsX6_ring : List Cond := .code yX6_ring cX6_ring 6 (some .int) :: ((wsX6_ring_r1 ++ wsX6_ring_r2) ++ wsX60 ++ wsX30 ++ wsX10)
def wsX6_ringAt : List Cond := .code yX6_ringAt cX6_ringAt 2 (some .int) :: ([.fieldLink RX6 36 "BallBoxes" "theRing" "LBallBoxes$Ring;", .methodLink RX6 158 yX1_isRingBox, .instanceMethod yX1_isRingBox, .selects RX1 yX1_isRingBox yX1_isRingBox, .initialized RX1, .code yX1_isRingBox cX1_isRingBox 2 (some .boolean), .fieldLink RX1 7 "BallBoxes$Ring" "size" "I", .methodLink RX6 161 yX1_ballAt, .instanceMethod yX1_ballAt, .selects RX1 yX1_ballAt yX1_ballAt, .code yX1_ballAt cX1_ballAt 2 (some .int), .fieldLink RX1 13 "BallBoxes$Ring" "bits" "J"] ++ wsX60 ++ wsX10)
def wsX6_turn : List Cond := .code yX6_turn cX6_turn 2 (some .int) :: ([.fieldLink RX6 36 "BallBoxes" "theRing" "LBallBoxes$Ring;", .methodLink RX6 73 yX6_isRoom, .static yX6_isRoom, .initialized RX6, .code yX6_isRoom cX6_isRoom 1 (some .boolean), .methodLink RX6 162 yX1_turnBy, .instanceMethod yX1_turnBy, .selects RX1 yX1_turnBy yX1_turnBy, .initialized RX1, .code yX1_turnBy cX1_turnBy 3 (some .int), .fieldLink RX1 21 "BallBoxes$Ring" "carrierHas" "I", .fieldLink RX1 24 "BallBoxes$Ring" "made" "J", .fieldLink RX1 13 "BallBoxes$Ring" "bits" "J", .methodLink RX1 17 yX1_goRound, .instanceMethod yX1_goRound, .selects RX1 yX1_goRound yX1_goRound, .code yX1_goRound cX1_goRound 9 none, .fieldLink RX1 7 "BallBoxes$Ring" "size" "I", .methodLink RX1 27 yX1_ballAt, .instanceMethod yX1_ballAt, .selects RX1 yX1_ballAt yX1_ballAt, .code yX1_ballAt cX1_ballAt 2 (some .int), .static yX6_loadBehind, .code yX6_loadBehind cX6_loadBehind 3 (some .int)] ++ wsX60 ++ wsX10)
def wsX6_period_r1 : List Cond := [Cond.fieldLink RX6 43 "BallBoxes" "trial" "LBallBoxes$RingTrial;", Cond.fieldLink RX6 36 "BallBoxes" "theRing" "LBallBoxes$Ring;", Cond.methodLink RX6 73 yX6_isRoom, Cond.static yX6_isRoom, Cond.initialized RX6, Cond.code yX6_isRoom cX6_isRoom 1 (some .boolean), Cond.methodLink RX6 165 yX2_periodOf, Cond.instanceMethod yX2_periodOf, Cond.selects RX2 yX2_periodOf yX2_periodOf, Cond.initialized RX2, Cond.code yX2_periodOf cX2_periodOf 4 (some .int), Cond.fieldLink RX2 12 "BallBoxes$RingTrial" "ring" "LBallBoxes$Ring;", Cond.methodLink RX2 30 yX1_become, Cond.instanceMethod yX1_become, Cond.selects RX1 yX1_become yX1_become, Cond.initialized RX1, Cond.code yX1_become cX1_become 4 none, Cond.fieldLink RX1 7 "BallBoxes$Ring" "size" "I", Cond.fieldLink RX1 13 "BallBoxes$Ring" "bits" "J", Cond.methodLink RX2 34 yX1_turnBy, Cond.instanceMethod yX1_turnBy, Cond.selects RX1 yX1_turnBy yX1_turnBy, Cond.code yX1_turnBy cX1_turnBy 3 (some .int), Cond.fieldLink RX1 21 "BallBoxes$Ring" "carrierHas" "I"]
def wsX6_period_r2 : List Cond := [Cond.fieldLink RX1 24 "BallBoxes$Ring" "made" "J", Cond.methodLink RX1 17 yX1_goRound, Cond.instanceMethod yX1_goRound, Cond.selects RX1 yX1_goRound yX1_goRound, Cond.code yX1_goRound cX1_goRound 9 none, Cond.methodLink RX1 27 yX1_ballAt, Cond.instanceMethod yX1_ballAt, Cond.selects RX1 yX1_ballAt yX1_ballAt, Cond.code yX1_ballAt cX1_ballAt 2 (some .int), Cond.static yX6_loadBehind, Cond.code yX6_loadBehind cX6_loadBehind 3 (some .int)]
def wsX6_period : List Cond := .code yX6_period cX6_period 2 (some .int) :: ((wsX6_period_r1 ++ wsX6_period_r2) ++ wsX60 ++ wsX20 ++ wsX10)
def wsX6_rings_r1 : List Cond := [Cond.fieldLink RX6 43 "BallBoxes" "trial" "LBallBoxes$RingTrial;", Cond.methodLink RX6 150 yX6_isFewerThanHalf, Cond.static yX6_isFewerThanHalf, Cond.initialized RX6, Cond.code yX6_isFewerThanHalf cX6_isFewerThanHalf 2 (some .boolean), Cond.methodLink RX6 73 yX6_isRoom, Cond.static yX6_isRoom, Cond.code yX6_isRoom cX6_isRoom 1 (some .boolean), Cond.methodLink RX6 169 yX2_countAll, Cond.instanceMethod yX2_countAll, Cond.selects RX2 yX2_countAll yX2_countAll, Cond.initialized RX2, Cond.code yX2_countAll cX2_countAll 5 (some .int), Cond.methodLink RX2 38 yJ6_bitCount_0f7a4, Cond.static yJ6_bitCount_0f7a4, Cond.initialized RJ6, Cond.code yJ6_bitCount_0f7a4 cJ6_bitCount_0f7a4 1 (some .int), Cond.constant RJ6 265 (1431655765), Cond.constant RJ6 266 (858993459), Cond.constant RJ6 267 (252645135), Cond.methodLink RX6 172 yX2_countWithPeriod, Cond.instanceMethod yX2_countWithPeriod, Cond.selects RX2 yX2_countWithPeriod yX2_countWithPeriod, Cond.code yX2_countWithPeriod cX2_countWithPeriod 8 (some .int)]
def wsX6_rings_r2 : List Cond := [Cond.methodLink RX2 43 yX2_forget, Cond.instanceMethod yX2_forget, Cond.selects RX2 yX2_forget yX2_forget, Cond.code yX2_forget cX2_forget 2 none, Cond.fieldLink RX2 18 "BallBoxes$RingTrial" "seen" "[J", Cond.methodLink RX2 46 yX2_isSeen, Cond.instanceMethod yX2_isSeen, Cond.selects RX2 yX2_isSeen yX2_isSeen, Cond.code yX2_isSeen cX2_isSeen 3 (some .boolean), Cond.methodLink RX2 50 yX2_goThrough, Cond.instanceMethod yX2_goThrough, Cond.selects RX2 yX2_goThrough yX2_goThrough, Cond.code yX2_goThrough cX2_goThrough 5 (some .int), Cond.fieldLink RX2 12 "BallBoxes$RingTrial" "ring" "LBallBoxes$Ring;", Cond.methodLink RX2 30 yX1_become, Cond.instanceMethod yX1_become, Cond.selects RX1 yX1_become yX1_become, Cond.initialized RX1, Cond.code yX1_become cX1_become 4 none, Cond.fieldLink RX1 7 "BallBoxes$Ring" "size" "I", Cond.fieldLink RX1 13 "BallBoxes$Ring" "bits" "J", Cond.methodLink RX2 34 yX1_turnBy, Cond.instanceMethod yX1_turnBy, Cond.selects RX1 yX1_turnBy yX1_turnBy]
def wsX6_rings_r3 : List Cond := [Cond.code yX1_turnBy cX1_turnBy 3 (some .int), Cond.fieldLink RX1 21 "BallBoxes$Ring" "carrierHas" "I", Cond.fieldLink RX1 24 "BallBoxes$Ring" "made" "J", Cond.methodLink RX1 17 yX1_goRound, Cond.instanceMethod yX1_goRound, Cond.selects RX1 yX1_goRound yX1_goRound, Cond.code yX1_goRound cX1_goRound 9 none, Cond.methodLink RX1 27 yX1_ballAt, Cond.instanceMethod yX1_ballAt, Cond.selects RX1 yX1_ballAt yX1_ballAt, Cond.code yX1_ballAt cX1_ballAt 2 (some .int), Cond.static yX6_loadBehind, Cond.code yX6_loadBehind cX6_loadBehind 3 (some .int), Cond.methodLink RX2 54 yX2_see, Cond.instanceMethod yX2_see, Cond.selects RX2 yX2_see yX2_see, Cond.code yX2_see cX2_see 3 none]
def wsX6_rings : List Cond := .code yX6_rings cX6_rings 5 (some .int) :: ((wsX6_rings_r1 ++ (wsX6_rings_r2 ++ wsX6_rings_r3)) ++ wsX60 ++ wsX20 ++ wsX10)
def wsX6_sheetOf : List Cond := .code yX6_sheetOf cX6_sheetOf 2 (some (.object "BallBoxes$Sheet")) :: ([.fieldLink RX6 49 "BallBoxes" "sheets" "[LBallBoxes$Sheet;"] ++ wsX60)
def wsX6_isForm : List Cond := .code yX6_isForm cX6_isForm 1 (some .boolean) :: ([])
def wsX6_find : List Cond := .code yX6_find cX6_find 2 (some .int) :: ([.fieldLink RX6 227 "BallBoxes" "latestFinding" "I"] ++ wsX60)
def wsX6_sheet : List Cond := .code yX6_sheet cX6_sheet 5 (some .int) :: ([.methodLink RX6 176 yX6_sheetOf, .instanceMethod yX6_sheetOf, .selects RX6 yX6_sheetOf yX6_sheetOf, .initialized RX6, .code yX6_sheetOf cX6_sheetOf 2 (some (.object "BallBoxes$Sheet")), .fieldLink RX6 49 "BallBoxes" "sheets" "[LBallBoxes$Sheet;", .methodLink RX6 180 yX6_isForm, .static yX6_isForm, .code yX6_isForm cX6_isForm 1 (some .boolean), .methodLink RX6 183 yX6_find, .instanceMethod yX6_find, .selects RX6 yX6_find yX6_find, .code yX6_find cX6_find 2 (some .int), .fieldLink RX6 227 "BallBoxes" "latestFinding" "I", .methodLink RX6 186 yX4_begin, .instanceMethod yX4_begin, .selects RX4 yX4_begin yX4_begin, .initialized RX4, .code yX4_begin cX4_begin 4 none, .fieldLink RX4 15 "BallBoxes$Sheet" "lost" "Z", .fieldLink RX4 19 "BallBoxes$Sheet" "form" "I", .fieldLink RX4 23 "BallBoxes$Sheet" "size" "I", .fieldLink RX4 9 "BallBoxes$Sheet" "items" "[I"] ++ wsX60 ++ wsX40)
def wsX6_lose : List Cond := .code yX6_lose cX6_lose 3 (some .int) :: ([.methodLink RX6 176 yX6_sheetOf, .instanceMethod yX6_sheetOf, .selects RX6 yX6_sheetOf yX6_sheetOf, .initialized RX6, .code yX6_sheetOf cX6_sheetOf 2 (some (.object "BallBoxes$Sheet")), .fieldLink RX6 49 "BallBoxes" "sheets" "[LBallBoxes$Sheet;", .methodLink RX6 183 yX6_find, .instanceMethod yX6_find, .selects RX6 yX6_find yX6_find, .code yX6_find cX6_find 2 (some .int), .fieldLink RX6 227 "BallBoxes" "latestFinding" "I"] ++ wsX40 ++ wsX60)
def wsX6_put_r1 : List Cond := [Cond.methodLink RX6 176 yX6_sheetOf, Cond.instanceMethod yX6_sheetOf, Cond.selects RX6 yX6_sheetOf yX6_sheetOf, Cond.initialized RX6, Cond.code yX6_sheetOf cX6_sheetOf 2 (some (.object "BallBoxes$Sheet")), Cond.fieldLink RX6 49 "BallBoxes" "sheets" "[LBallBoxes$Sheet;", Cond.methodLink RX6 180 yX6_isForm, Cond.static yX6_isForm, Cond.code yX6_isForm cX6_isForm 1 (some .boolean), Cond.methodLink RX6 194 yX4_findingAt, Cond.instanceMethod yX4_findingAt, Cond.selects RX4 yX4_findingAt yX4_findingAt, Cond.initialized RX4, Cond.code yX4_findingAt cX4_findingAt 3 (some .int), Cond.fieldLink RX4 15 "BallBoxes$Sheet" "lost" "Z", Cond.fieldLink RX4 19 "BallBoxes$Sheet" "form" "I", Cond.methodLink RX4 26 yX4_isItem, Cond.instanceMethod yX4_isItem, Cond.selects RX4 yX4_isItem yX4_isItem, Cond.code yX4_isItem cX4_isItem 2 (some .boolean), Cond.fieldLink RX4 23 "BallBoxes$Sheet" "size" "I", Cond.methodLink RX6 183 yX6_find, Cond.instanceMethod yX6_find, Cond.selects RX6 yX6_find yX6_find]
def wsX6_put_r2 : List Cond := [Cond.code yX6_find cX6_find 2 (some .int), Cond.fieldLink RX6 227 "BallBoxes" "latestFinding" "I", Cond.methodLink RX6 197 yX4_place, Cond.instanceMethod yX4_place, Cond.selects RX4 yX4_place yX4_place, Cond.code yX4_place cX4_place 3 none, Cond.fieldLink RX4 9 "BallBoxes$Sheet" "items" "[I", Cond.methodLink RX4 30 yX4_cut, Cond.instanceMethod yX4_cut, Cond.selects RX4 yX4_cut yX4_cut, Cond.code yX4_cut cX4_cut 2 (some .int)]
def wsX6_put : List Cond := .code yX6_put cX6_put 7 (some .int) :: ((wsX6_put_r1 ++ wsX6_put_r2) ++ wsX60 ++ wsX40)
def wsX6_get_r1 : List Cond := [Cond.constant RX6 198 (-2147483648), Cond.methodLink RX6 176 yX6_sheetOf, Cond.instanceMethod yX6_sheetOf, Cond.selects RX6 yX6_sheetOf yX6_sheetOf, Cond.initialized RX6, Cond.code yX6_sheetOf cX6_sheetOf 2 (some (.object "BallBoxes$Sheet")), Cond.fieldLink RX6 49 "BallBoxes" "sheets" "[LBallBoxes$Sheet;", Cond.methodLink RX6 180 yX6_isForm, Cond.static yX6_isForm, Cond.code yX6_isForm cX6_isForm 1 (some .boolean), Cond.methodLink RX6 194 yX4_findingAt, Cond.instanceMethod yX4_findingAt, Cond.selects RX4 yX4_findingAt yX4_findingAt, Cond.initialized RX4, Cond.code yX4_findingAt cX4_findingAt 3 (some .int), Cond.fieldLink RX4 15 "BallBoxes$Sheet" "lost" "Z", Cond.fieldLink RX4 19 "BallBoxes$Sheet" "form" "I", Cond.methodLink RX4 26 yX4_isItem, Cond.instanceMethod yX4_isItem, Cond.selects RX4 yX4_isItem yX4_isItem, Cond.code yX4_isItem cX4_isItem 2 (some .boolean), Cond.fieldLink RX4 23 "BallBoxes$Sheet" "size" "I", Cond.methodLink RX6 183 yX6_find, Cond.instanceMethod yX6_find]
def wsX6_get_r2 : List Cond := [Cond.selects RX6 yX6_find yX6_find, Cond.code yX6_find cX6_find 2 (some .int), Cond.fieldLink RX6 227 "BallBoxes" "latestFinding" "I", Cond.methodLink RX6 199 yX4_itemAt, Cond.instanceMethod yX4_itemAt, Cond.selects RX4 yX4_itemAt yX4_itemAt, Cond.code yX4_itemAt cX4_itemAt 2 (some .int), Cond.fieldLink RX4 9 "BallBoxes$Sheet" "items" "[I"]
def wsX6_get : List Cond := .code yX6_get cX6_get 6 (some .int) :: ((wsX6_get_r1 ++ wsX6_get_r2) ++ wsX60 ++ wsX40)
def wsX6_copy : List Cond := .code yX6_copy cX6_copy 8 (some .int) :: ([.methodLink RX6 212 arraycopyName, .native arraycopyName, .static arraycopyName, .initialized "java/lang/System", .methodLink RX6 176 yX6_sheetOf, .instanceMethod yX6_sheetOf, .selects RX6 yX6_sheetOf yX6_sheetOf, .initialized RX6, .code yX6_sheetOf cX6_sheetOf 2 (some (.object "BallBoxes$Sheet")), .fieldLink RX6 49 "BallBoxes" "sheets" "[LBallBoxes$Sheet;", .methodLink RX6 183 yX6_find, .instanceMethod yX6_find, .selects RX6 yX6_find yX6_find, .code yX6_find cX6_find 2 (some .int), .fieldLink RX6 227 "BallBoxes" "latestFinding" "I", .methodLink RX6 205 yX4_hasItems, .instanceMethod yX4_hasItems, .selects RX4 yX4_hasItems yX4_hasItems, .initialized RX4, .code yX4_hasItems cX4_hasItems 3 (some .boolean), .fieldLink RX4 23 "BallBoxes$Sheet" "size" "I"] ++ wsX40 ++ wsX60)
def wsX6_load_r1 : List Cond := [Cond.fieldLink RX6 10 "BallBoxes" "theRow" "LBallBoxes$Row;", Cond.methodLink RX6 176 yX6_sheetOf, Cond.instanceMethod yX6_sheetOf, Cond.selects RX6 yX6_sheetOf yX6_sheetOf, Cond.initialized RX6, Cond.code yX6_sheetOf cX6_sheetOf 2 (some (.object "BallBoxes$Sheet")), Cond.fieldLink RX6 49 "BallBoxes" "sheets" "[LBallBoxes$Sheet;", Cond.methodLink RX6 54 yX6_isBox, Cond.static yX6_isBox, Cond.code yX6_isBox cX6_isBox 1 (some .boolean), Cond.methodLink RX6 183 yX6_find, Cond.instanceMethod yX6_find, Cond.selects RX6 yX6_find yX6_find, Cond.code yX6_find cX6_find 2 (some .int), Cond.fieldLink RX6 227 "BallBoxes" "latestFinding" "I", Cond.methodLink RX6 199 yX4_itemAt, Cond.instanceMethod yX4_itemAt, Cond.selects RX4 yX4_itemAt yX4_itemAt, Cond.initialized RX4, Cond.code yX4_itemAt cX4_itemAt 2 (some .int), Cond.fieldLink RX4 9 "BallBoxes$Sheet" "items" "[I", Cond.methodLink RX4 26 yX4_isItem, Cond.instanceMethod yX4_isItem, Cond.selects RX4 yX4_isItem yX4_isItem]
def wsX6_load_r2 : List Cond := [Cond.code yX4_isItem cX4_isItem 2 (some .boolean), Cond.fieldLink RX4 23 "BallBoxes$Sheet" "size" "I", Cond.methodLink RX6 62 yX3_place, Cond.instanceMethod yX3_place, Cond.selects RX3 yX3_place yX3_place, Cond.initialized RX3, Cond.code yX3_place cX3_place 3 none, Cond.fieldLink RX3 9 "BallBoxes$Row" "boxes" "[I"]
def wsX6_load : List Cond := .code yX6_load cX6_load 5 (some .int) :: ((wsX6_load_r1 ++ wsX6_load_r2) ++ wsX40 ++ wsX60 ++ wsX30)
def wsX6_write_r1 : List Cond := [Cond.methodLink RX6 218 Lib.Math.min.name, Cond.static Lib.Math.min.name, Cond.initialized "java/lang/Math", Cond.code Lib.Math.min.name Lib.Math.min.code 2 (some .int), Cond.fieldLink RX6 10 "BallBoxes" "theRow" "LBallBoxes$Row;", Cond.methodLink RX6 176 yX6_sheetOf, Cond.instanceMethod yX6_sheetOf, Cond.selects RX6 yX6_sheetOf yX6_sheetOf, Cond.initialized RX6, Cond.code yX6_sheetOf cX6_sheetOf 2 (some (.object "BallBoxes$Sheet")), Cond.fieldLink RX6 49 "BallBoxes" "sheets" "[LBallBoxes$Sheet;", Cond.methodLink RX6 54 yX6_isBox, Cond.static yX6_isBox, Cond.code yX6_isBox cX6_isBox 1 (some .boolean), Cond.methodLink RX6 183 yX6_find, Cond.instanceMethod yX6_find, Cond.selects RX6 yX6_find yX6_find, Cond.code yX6_find cX6_find 2 (some .int), Cond.fieldLink RX6 227 "BallBoxes" "latestFinding" "I", Cond.methodLink RX6 58 yX3_ballAt, Cond.instanceMethod yX3_ballAt, Cond.selects RX3 yX3_ballAt yX3_ballAt, Cond.initialized RX3, Cond.code yX3_ballAt cX3_ballAt 2 (some .int)]
def wsX6_write_r2 : List Cond := [Cond.fieldLink RX3 9 "BallBoxes$Row" "boxes" "[I", Cond.methodLink RX6 197 yX4_place, Cond.instanceMethod yX4_place, Cond.selects RX4 yX4_place yX4_place, Cond.initialized RX4, Cond.code yX4_place cX4_place 3 none, Cond.fieldLink RX4 9 "BallBoxes$Sheet" "items" "[I", Cond.methodLink RX4 26 yX4_isItem, Cond.instanceMethod yX4_isItem, Cond.selects RX4 yX4_isItem yX4_isItem, Cond.code yX4_isItem cX4_isItem 2 (some .boolean), Cond.fieldLink RX4 23 "BallBoxes$Sheet" "size" "I", Cond.methodLink RX4 30 yX4_cut, Cond.instanceMethod yX4_cut, Cond.selects RX4 yX4_cut yX4_cut, Cond.code yX4_cut cX4_cut 2 (some .int), Cond.fieldLink RX4 19 "BallBoxes$Sheet" "form" "I"]
def wsX6_write : List Cond := .code yX6_write cX6_write 6 (some .int) :: ((wsX6_write_r1 ++ wsX6_write_r2) ++ wsX40 ++ wsX60 ++ wsX30)
def wsX6_count : List Cond := .code yX6_count cX6_count 2 (some .int) :: ([.fieldLink RX6 10 "BallBoxes" "theRow" "LBallBoxes$Row;", .fieldLink RX6 36 "BallBoxes" "theRing" "LBallBoxes$Ring;", .fieldLink RX6 26 "BallBoxes" "latestStrings" "LBallBoxes$Strings;", .fieldLink RX6 134 "BallBoxes" "moves" "I", .fieldLink RX6 227 "BallBoxes" "latestFinding" "I", .methodLink RX6 66 yX3_balls, .instanceMethod yX3_balls, .selects RX3 yX3_balls yX3_balls, .initialized RX3, .code yX3_balls cX3_balls 3 (some .int), .fieldLink RX3 9 "BallBoxes$Row" "boxes" "[I", .methodLink RX6 144 yJ13_bitCount_95d88, .static yJ13_bitCount_95d88, .initialized RJ13, .code yJ13_bitCount_95d88 cJ13_bitCount_95d88 2 (some .int), .constantLong RJ13 314 (6148914691236517205), .constantLong RJ13 316 (3689348814741910323), .constantLong RJ13 318 (1085102592571150095)] ++ wsX60 ++ wsX10 ++ wsX50 ++ wsX30)
def wsX6_digest_r1 : List Cond := [Cond.constantLong RX6 230 (17), Cond.constantLong RX6 232 (31), Cond.fieldLink RX6 10 "BallBoxes" "theRow" "LBallBoxes$Row;", Cond.fieldLink RX6 36 "BallBoxes" "theRing" "LBallBoxes$Ring;", Cond.methodLink RX6 234 yX6_count, Cond.instanceMethod yX6_count, Cond.selects RX6 yX6_count yX6_count, Cond.initialized RX6, Cond.code yX6_count cX6_count 2 (some .int), Cond.fieldLink RX6 26 "BallBoxes" "latestStrings" "LBallBoxes$Strings;", Cond.fieldLink RX6 134 "BallBoxes" "moves" "I", Cond.fieldLink RX6 227 "BallBoxes" "latestFinding" "I", Cond.methodLink RX6 66 yX3_balls, Cond.instanceMethod yX3_balls, Cond.selects RX3 yX3_balls yX3_balls, Cond.initialized RX3, Cond.code yX3_balls cX3_balls 3 (some .int), Cond.fieldLink RX3 9 "BallBoxes$Row" "boxes" "[I", Cond.methodLink RX6 144 yJ13_bitCount_95d88, Cond.static yJ13_bitCount_95d88, Cond.initialized RJ13, Cond.code yJ13_bitCount_95d88 cJ13_bitCount_95d88 2 (some .int), Cond.constantLong RJ13 314 (6148914691236517205), Cond.constantLong RJ13 316 (3689348814741910323)]
def wsX6_digest_r2 : List Cond := [Cond.constantLong RJ13 318 (1085102592571150095), Cond.methodLink RX6 58 yX3_ballAt, Cond.instanceMethod yX3_ballAt, Cond.selects RX3 yX3_ballAt yX3_ballAt, Cond.code yX3_ballAt cX3_ballAt 2 (some .int), Cond.static yX6_isBox, Cond.code yX6_isBox cX6_isBox 1 (some .boolean), Cond.methodLink RX6 161 yX1_ballAt, Cond.instanceMethod yX1_ballAt, Cond.selects RX1 yX1_ballAt yX1_ballAt, Cond.initialized RX1, Cond.code yX1_ballAt cX1_ballAt 2 (some .int), Cond.fieldLink RX1 13 "BallBoxes$Ring" "bits" "J"]
def wsX6_digest : List Cond := .code yX6_digest cX6_digest 4 (some .long) :: ((wsX6_digest_r1 ++ wsX6_digest_r2) ++ wsX60 ++ wsX10 ++ wsX50 ++ wsX30)
def wsX7_init : List Cond := .code yX7_init cX7_init 1 none :: ([.methodLink RX7 1 objectInit, .instanceMethod objectInit, .code objectInit ⟨#[0xb1]⟩ 1 none, .arrayClass .boolean, .fieldLink RX7 7 "BallBoxesModel" "boxes" "[Z", .fieldLink RX7 13 "BallBoxesModel" "next" "[Z", .fieldLink RX7 16 "BallBoxesModel" "left" "[Z", .arrayClass .int, .fieldLink RX7 19 "BallBoxesModel" "pairs" "[I", .fieldLink RX7 23 "BallBoxesModel" "lengths" "[I", .fieldLink RX7 26 "BallBoxesModel" "riggings" "[I", .fieldLink RX7 29 "BallBoxesModel" "toldLength" "[I", .fieldLink RX7 32 "BallBoxesModel" "toldRigging" "[I", .fieldLink RX7 35 "BallBoxesModel" "toldRoom" "[I", .fieldLink RX7 38 "BallBoxesModel" "ringN" "I", .fieldLink RX7 42 "BallBoxesModel" "ring" "[Z", .fieldLink RX7 45 "BallBoxesModel" "was" "[Z", .fieldLink RX7 48 "BallBoxesModel" "saved" "[Z", .fieldLink RX7 51 "BallBoxesModel" "isThere" "[Z", .fieldLink RX7 54 "BallBoxesModel" "forms" "[I", .fieldLink RX7 57 "BallBoxesModel" "sizes" "[I", .fieldLink RX7 60 "BallBoxesModel" "items" "[I", .fieldLink RX7 63 "BallBoxesModel" "moved" "[I"] ++ wsX70)
def wsX7_in : List Cond := .code yX7_in cX7_in 3 (some .boolean) :: ([])
def wsX7_set : List Cond := .code yX7_set cX7_set 4 (some .int) :: ([.fieldLink RX7 7 "BallBoxesModel" "boxes" "[Z", .methodLink RX7 66 yX7_in, .static yX7_in, .initialized RX7, .code yX7_in cX7_in 3 (some .boolean)] ++ wsX70)
def wsX7_at : List Cond := .code yX7_at cX7_at 2 (some .int) :: ([.fieldLink RX7 7 "BallBoxesModel" "boxes" "[Z", .methodLink RX7 66 yX7_in, .static yX7_in, .initialized RX7, .code yX7_in cX7_in 3 (some .boolean)] ++ wsX70)
def wsX7_balls : List Cond := .code yX7_balls cX7_balls 3 (some .int) :: ([.fieldLink RX7 7 "BallBoxesModel" "boxes" "[Z"] ++ wsX70)
def wsX7_empty : List Cond := .code yX7_empty cX7_empty 3 (some .int) :: ([.fieldLink RX7 7 "BallBoxesModel" "boxes" "[Z", .methodLink RX7 70 yX7_balls, .instanceMethod yX7_balls, .selects RX7 yX7_balls yX7_balls, .initialized RX7, .code yX7_balls cX7_balls 3 (some .int)] ++ wsX70)
def wsX7_takes : List Cond := .code yX7_takes cX7_takes 3 (some .int) :: ([.fieldLink RX7 7 "BallBoxesModel" "boxes" "[Z", .fieldLink RX7 13 "BallBoxesModel" "next" "[Z", .fieldLink RX7 74 "BallBoxesModel" "done" "I"] ++ wsX70)
def wsX7_goes : List Cond := .code yX7_goes cX7_goes 6 (some .int) :: ([.fieldLink RX7 13 "BallBoxesModel" "next" "[Z", .fieldLink RX7 7 "BallBoxesModel" "boxes" "[Z", .methodLink RX7 66 yX7_in, .static yX7_in, .initialized RX7, .code yX7_in cX7_in 3 (some .boolean), .methodLink RX7 77 yX7_takes, .instanceMethod yX7_takes, .selects RX7 yX7_takes yX7_takes, .code yX7_takes cX7_takes 3 (some .int), .fieldLink RX7 74 "BallBoxesModel" "done" "I"] ++ wsX70)
def wsX7_step : List Cond := .code yX7_step cX7_step 2 (some .int) :: ([.methodLink RX7 80 yX7_goes, .instanceMethod yX7_goes, .selects RX7 yX7_goes yX7_goes, .initialized RX7, .code yX7_goes cX7_goes 6 (some .int), .fieldLink RX7 13 "BallBoxesModel" "next" "[Z", .fieldLink RX7 7 "BallBoxesModel" "boxes" "[Z", .methodLink RX7 66 yX7_in, .static yX7_in, .code yX7_in cX7_in 3 (some .boolean), .methodLink RX7 77 yX7_takes, .instanceMethod yX7_takes, .selects RX7 yX7_takes yX7_takes, .code yX7_takes cX7_takes 3 (some .int), .fieldLink RX7 74 "BallBoxesModel" "done" "I"] ++ wsX70)
def wsX7_back : List Cond := .code yX7_back cX7_back 2 (some .int) :: ([.methodLink RX7 80 yX7_goes, .instanceMethod yX7_goes, .selects RX7 yX7_goes yX7_goes, .initialized RX7, .code yX7_goes cX7_goes 6 (some .int), .fieldLink RX7 13 "BallBoxesModel" "next" "[Z", .fieldLink RX7 7 "BallBoxesModel" "boxes" "[Z", .methodLink RX7 66 yX7_in, .static yX7_in, .code yX7_in cX7_in 3 (some .boolean), .methodLink RX7 77 yX7_takes, .instanceMethod yX7_takes, .selects RX7 yX7_takes yX7_takes, .code yX7_takes cX7_takes 3 (some .int), .fieldLink RX7 74 "BallBoxesModel" "done" "I"] ++ wsX70)
def wsX7_kept : List Cond := .code yX7_kept cX7_kept 5 (some .int) :: ([.fieldLink RX7 7 "BallBoxesModel" "boxes" "[Z", .methodLink RX7 66 yX7_in, .static yX7_in, .initialized RX7, .code yX7_in cX7_in 3 (some .boolean)] ++ wsX70)
def wsX7_pairRounds : List Cond := .code yX7_pairRounds cX7_pairRounds 6 (some .int) :: ([.fieldLink RX7 16 "BallBoxesModel" "left" "[Z", .fieldLink RX7 7 "BallBoxesModel" "boxes" "[Z", .fieldLink RX7 19 "BallBoxesModel" "pairs" "[I", .methodLink RX7 70 yX7_balls, .instanceMethod yX7_balls, .selects RX7 yX7_balls yX7_balls, .initialized RX7, .code yX7_balls cX7_balls 3 (some .int)] ++ wsX70)
def wsX7_row : List Cond := .code yX7_row cX7_row 5 (some .int) :: ([.fieldLink RX7 7 "BallBoxesModel" "boxes" "[Z", .fieldLink RX7 19 "BallBoxesModel" "pairs" "[I", .methodLink RX7 70 yX7_balls, .instanceMethod yX7_balls, .selects RX7 yX7_balls yX7_balls, .initialized RX7, .code yX7_balls cX7_balls 3 (some .int), .methodLink RX7 84 yX7_pairRounds, .instanceMethod yX7_pairRounds, .selects RX7 yX7_pairRounds yX7_pairRounds, .code yX7_pairRounds cX7_pairRounds 6 (some .int), .fieldLink RX7 16 "BallBoxesModel" "left" "[Z"] ++ wsX70)
def wsX7_heap : List Cond := .code yX7_heap cX7_heap 5 (some .int) :: ([.fieldLink RX7 19 "BallBoxesModel" "pairs" "[I", .methodLink RX7 84 yX7_pairRounds, .instanceMethod yX7_pairRounds, .selects RX7 yX7_pairRounds yX7_pairRounds, .initialized RX7, .code yX7_pairRounds cX7_pairRounds 6 (some .int), .fieldLink RX7 16 "BallBoxesModel" "left" "[Z", .fieldLink RX7 7 "BallBoxesModel" "boxes" "[Z", .methodLink RX7 70 yX7_balls, .instanceMethod yX7_balls, .selects RX7 yX7_balls yX7_balls, .code yX7_balls cX7_balls 3 (some .int), .methodLink RX7 66 yX7_in, .static yX7_in, .code yX7_in cX7_in 3 (some .boolean)] ++ wsX70)
def wsX7_room : List Cond := .code yX7_room cX7_room 5 (some .int) :: ([.fieldLink RX7 87 "BallBoxesModel" "many" "I", .fieldLink RX7 23 "BallBoxesModel" "lengths" "[I"] ++ wsX70)
def wsX7_tight : List Cond := .code yX7_tight cX7_tight 6 (some .int) :: ([.fieldLink RX7 87 "BallBoxesModel" "many" "I", .fieldLink RX7 26 "BallBoxesModel" "riggings" "[I", .fieldLink RX7 23 "BallBoxesModel" "lengths" "[I", .methodLink RX7 90 yX7_room, .instanceMethod yX7_room, .selects RX7 yX7_room yX7_room, .initialized RX7, .code yX7_room cX7_room 5 (some .int)] ++ wsX70)
def wsX7_reads : List Cond := .code yX7_reads cX7_reads 4 none :: ([.fieldLink RX7 87 "BallBoxesModel" "many" "I", .fieldLink RX7 7 "BallBoxesModel" "boxes" "[Z", .fieldLink RX7 23 "BallBoxesModel" "lengths" "[I", .fieldLink RX7 26 "BallBoxesModel" "riggings" "[I", .methodLink RX7 94 yX7_tight, .instanceMethod yX7_tight, .selects RX7 yX7_tight yX7_tight, .initialized RX7, .code yX7_tight cX7_tight 6 (some .int), .methodLink RX7 90 yX7_room, .instanceMethod yX7_room, .selects RX7 yX7_room yX7_room, .code yX7_room cX7_room 5 (some .int)] ++ wsX70)
def wsX7_drops : List Cond := .code yX7_drops cX7_drops 2 none :: ([.fieldLink RX7 87 "BallBoxesModel" "many" "I", .fieldLink RX7 23 "BallBoxesModel" "lengths" "[I", .fieldLink RX7 26 "BallBoxesModel" "riggings" "[I"] ++ wsX70)
def wsX7_makes : List Cond := .code yX7_makes cX7_makes 3 (some .boolean) :: ([.fieldLink RX7 13 "BallBoxesModel" "next" "[Z", .fieldLink RX7 23 "BallBoxesModel" "lengths" "[I", .fieldLink RX7 26 "BallBoxesModel" "riggings" "[I", .fieldLink RX7 87 "BallBoxesModel" "many" "I", .methodLink RX7 94 yX7_tight, .instanceMethod yX7_tight, .selects RX7 yX7_tight yX7_tight, .initialized RX7, .code yX7_tight cX7_tight 6 (some .int), .methodLink RX7 90 yX7_room, .instanceMethod yX7_room, .selects RX7 yX7_room yX7_room, .code yX7_room cX7_room 5 (some .int), .methodLink RX7 97 yX7_drops, .instanceMethod yX7_drops, .selects RX7 yX7_drops yX7_drops, .code yX7_drops cX7_drops 2 none] ++ wsX70)
def wsX7_strings : List Cond := .code yX7_strings cX7_strings 4 (some .int) :: ([.fieldLink RX7 87 "BallBoxesModel" "many" "I", .fieldLink RX7 104 "BallBoxesModel" "told" "I", .fieldLink RX7 29 "BallBoxesModel" "toldLength" "[I", .fieldLink RX7 23 "BallBoxesModel" "lengths" "[I", .fieldLink RX7 32 "BallBoxesModel" "toldRigging" "[I", .fieldLink RX7 26 "BallBoxesModel" "riggings" "[I", .fieldLink RX7 35 "BallBoxesModel" "toldRoom" "[I", .methodLink RX7 66 yX7_in, .static yX7_in, .initialized RX7, .code yX7_in cX7_in 3 (some .boolean), .methodLink RX7 101 yX7_reads, .instanceMethod yX7_reads, .selects RX7 yX7_reads yX7_reads, .code yX7_reads cX7_reads 4 none, .fieldLink RX7 7 "BallBoxesModel" "boxes" "[Z", .methodLink RX7 94 yX7_tight, .instanceMethod yX7_tight, .selects RX7 yX7_tight yX7_tight, .code yX7_tight cX7_tight 6 (some .int), .methodLink RX7 90 yX7_room, .instanceMethod yX7_room, .selects RX7 yX7_room yX7_room, .code yX7_room cX7_room 5 (some .int)] ++ wsX70)
def wsX7_string : List Cond := .code yX7_string cX7_string 3 (some .int) :: ([.fieldLink RX7 104 "BallBoxesModel" "told" "I", .fieldLink RX7 29 "BallBoxesModel" "toldLength" "[I", .fieldLink RX7 32 "BallBoxesModel" "toldRigging" "[I", .fieldLink RX7 35 "BallBoxesModel" "toldRoom" "[I", .methodLink RX7 66 yX7_in, .static yX7_in, .initialized RX7, .code yX7_in cX7_in 3 (some .boolean)] ++ wsX70)
def wsX7_leap_r1 : List Cond := [Cond.fieldLink RX7 87 "BallBoxesModel" "many" "I", Cond.fieldLink RX7 26 "BallBoxesModel" "riggings" "[I", Cond.fieldLink RX7 23 "BallBoxesModel" "lengths" "[I", Cond.methodLink RX7 66 yX7_in, Cond.static yX7_in, Cond.initialized RX7, Cond.code yX7_in cX7_in 3 (some .boolean), Cond.methodLink RX7 101 yX7_reads, Cond.instanceMethod yX7_reads, Cond.selects RX7 yX7_reads yX7_reads, Cond.code yX7_reads cX7_reads 4 none, Cond.fieldLink RX7 7 "BallBoxesModel" "boxes" "[Z", Cond.methodLink RX7 94 yX7_tight, Cond.instanceMethod yX7_tight, Cond.selects RX7 yX7_tight yX7_tight, Cond.code yX7_tight cX7_tight 6 (some .int), Cond.methodLink RX7 90 yX7_room, Cond.instanceMethod yX7_room, Cond.selects RX7 yX7_room yX7_room, Cond.code yX7_room cX7_room 5 (some .int), Cond.methodLink RX7 107 yX7_makes, Cond.instanceMethod yX7_makes, Cond.selects RX7 yX7_makes yX7_makes, Cond.code yX7_makes cX7_makes 3 (some .boolean)]
def wsX7_leap_r2 : List Cond := [Cond.fieldLink RX7 13 "BallBoxesModel" "next" "[Z", Cond.methodLink RX7 97 yX7_drops, Cond.instanceMethod yX7_drops, Cond.selects RX7 yX7_drops yX7_drops, Cond.code yX7_drops cX7_drops 2 none, Cond.methodLink RX7 77 yX7_takes, Cond.instanceMethod yX7_takes, Cond.selects RX7 yX7_takes yX7_takes, Cond.code yX7_takes cX7_takes 3 (some .int), Cond.fieldLink RX7 74 "BallBoxesModel" "done" "I"]
def wsX7_leap : List Cond := .code yX7_leap cX7_leap 5 (some .int) :: ((wsX7_leap_r1 ++ wsX7_leap_r2) ++ wsX70)
def wsX7_ringBalls : List Cond := .code yX7_ringBalls cX7_ringBalls 3 (some .int) :: ([.fieldLink RX7 38 "BallBoxesModel" "ringN" "I", .fieldLink RX7 42 "BallBoxesModel" "ring" "[Z"] ++ wsX70)
def wsX7_ring : List Cond := .code yX7_ring cX7_ring 5 (some .int) :: ([.fieldLink RX7 7 "BallBoxesModel" "boxes" "[Z", .fieldLink RX7 38 "BallBoxesModel" "ringN" "I", .fieldLink RX7 42 "BallBoxesModel" "ring" "[Z", .methodLink RX7 66 yX7_in, .static yX7_in, .initialized RX7, .code yX7_in cX7_in 3 (some .boolean)] ++ wsX70)
def wsX7_ringAt : List Cond := .code yX7_ringAt cX7_ringAt 2 (some .int) :: ([.fieldLink RX7 38 "BallBoxesModel" "ringN" "I", .fieldLink RX7 42 "BallBoxesModel" "ring" "[Z", .methodLink RX7 66 yX7_in, .static yX7_in, .initialized RX7, .code yX7_in cX7_in 3 (some .boolean)] ++ wsX70)
def wsX7_turns : List Cond := .code yX7_turns cX7_turns 5 (some .int) :: ([.fieldLink RX7 38 "BallBoxesModel" "ringN" "I", .fieldLink RX7 42 "BallBoxesModel" "ring" "[Z"] ++ wsX70)
def wsX7_turn : List Cond := .code yX7_turn cX7_turn 2 (some .int) :: ([.methodLink RX7 66 yX7_in, .static yX7_in, .initialized RX7, .code yX7_in cX7_in 3 (some .boolean), .methodLink RX7 111 yX7_turns, .instanceMethod yX7_turns, .selects RX7 yX7_turns yX7_turns, .code yX7_turns cX7_turns 5 (some .int), .fieldLink RX7 38 "BallBoxesModel" "ringN" "I", .fieldLink RX7 42 "BallBoxesModel" "ring" "[Z"] ++ wsX70)
def wsX7_isAsWas : List Cond := .code yX7_isAsWas cX7_isAsWas 2 (some .boolean) :: ([.fieldLink RX7 38 "BallBoxesModel" "ringN" "I", .fieldLink RX7 42 "BallBoxesModel" "ring" "[Z", .fieldLink RX7 45 "BallBoxesModel" "was" "[Z"] ++ wsX70)
def wsX7_periodOf : List Cond := .code yX7_periodOf cX7_periodOf 4 (some .int) :: ([.fieldLink RX7 38 "BallBoxesModel" "ringN" "I", .fieldLink RX7 45 "BallBoxesModel" "was" "[Z", .fieldLink RX7 42 "BallBoxesModel" "ring" "[Z", .methodLink RX7 111 yX7_turns, .instanceMethod yX7_turns, .selects RX7 yX7_turns yX7_turns, .initialized RX7, .code yX7_turns cX7_turns 5 (some .int), .methodLink RX7 115 yX7_isAsWas, .instanceMethod yX7_isAsWas, .selects RX7 yX7_isAsWas yX7_isAsWas, .code yX7_isAsWas cX7_isAsWas 2 (some .boolean)] ++ wsX70)
def wsX7_period : List Cond := .code yX7_period cX7_period 2 (some .int) :: ([.methodLink RX7 66 yX7_in, .static yX7_in, .initialized RX7, .code yX7_in cX7_in 3 (some .boolean), .methodLink RX7 118 yX7_periodOf, .instanceMethod yX7_periodOf, .selects RX7 yX7_periodOf yX7_periodOf, .code yX7_periodOf cX7_periodOf 4 (some .int), .fieldLink RX7 38 "BallBoxesModel" "ringN" "I", .fieldLink RX7 45 "BallBoxesModel" "was" "[Z", .fieldLink RX7 42 "BallBoxesModel" "ring" "[Z", .methodLink RX7 111 yX7_turns, .instanceMethod yX7_turns, .selects RX7 yX7_turns yX7_turns, .code yX7_turns cX7_turns 5 (some .int), .methodLink RX7 115 yX7_isAsWas, .instanceMethod yX7_isAsWas, .selects RX7 yX7_isAsWas yX7_isAsWas, .code yX7_isAsWas cX7_isAsWas 2 (some .boolean)] ++ wsX70)
def wsX7_rings : List Cond := .code yX7_rings cX7_rings 10 (some .int) :: ([.constantLong RX7 121 (2), .fieldLink RX7 38 "BallBoxesModel" "ringN" "I", .fieldLink RX7 48 "BallBoxesModel" "saved" "[Z", .fieldLink RX7 42 "BallBoxesModel" "ring" "[Z", .methodLink RX7 66 yX7_in, .static yX7_in, .initialized RX7, .code yX7_in cX7_in 3 (some .boolean), .methodLink RX7 118 yX7_periodOf, .instanceMethod yX7_periodOf, .selects RX7 yX7_periodOf yX7_periodOf, .code yX7_periodOf cX7_periodOf 4 (some .int), .fieldLink RX7 45 "BallBoxesModel" "was" "[Z", .methodLink RX7 111 yX7_turns, .instanceMethod yX7_turns, .selects RX7 yX7_turns yX7_turns, .code yX7_turns cX7_turns 5 (some .int), .methodLink RX7 115 yX7_isAsWas, .instanceMethod yX7_isAsWas, .selects RX7 yX7_isAsWas yX7_isAsWas, .code yX7_isAsWas cX7_isAsWas 2 (some .boolean)] ++ wsX70)
def wsX7_meets : List Cond := .code yX7_meets cX7_meets 2 (some .int) :: ([.fieldLink RX7 123 "BallBoxesModel" "finding" "I"] ++ wsX70)
def wsX7_isSheet : List Cond := .code yX7_isSheet cX7_isSheet 1 (some .boolean) :: ([.methodLink RX7 66 yX7_in, .static yX7_in, .initialized RX7, .code yX7_in cX7_in 3 (some .boolean)])
def wsX7_sheet : List Cond := .code yX7_sheet cX7_sheet 5 (some .int) :: ([.fieldLink RX7 51 "BallBoxesModel" "isThere" "[Z", .fieldLink RX7 54 "BallBoxesModel" "forms" "[I", .fieldLink RX7 57 "BallBoxesModel" "sizes" "[I", .fieldLink RX7 60 "BallBoxesModel" "items" "[I", .methodLink RX7 126 yX7_isSheet, .static yX7_isSheet, .initialized RX7, .code yX7_isSheet cX7_isSheet 1 (some .boolean), .methodLink RX7 66 yX7_in, .static yX7_in, .code yX7_in cX7_in 3 (some .boolean), .methodLink RX7 130 yX7_meets, .instanceMethod yX7_meets, .selects RX7 yX7_meets yX7_meets, .code yX7_meets cX7_meets 2 (some .int), .fieldLink RX7 123 "BallBoxesModel" "finding" "I"] ++ wsX70)
def wsX7_lose : List Cond := .code yX7_lose cX7_lose 2 (some .int) :: ([.fieldLink RX7 51 "BallBoxesModel" "isThere" "[Z", .fieldLink RX7 57 "BallBoxesModel" "sizes" "[I", .methodLink RX7 126 yX7_isSheet, .static yX7_isSheet, .initialized RX7, .code yX7_isSheet cX7_isSheet 1 (some .boolean), .methodLink RX7 66 yX7_in, .static yX7_in, .code yX7_in cX7_in 3 (some .boolean), .methodLink RX7 130 yX7_meets, .instanceMethod yX7_meets, .selects RX7 yX7_meets yX7_meets, .code yX7_meets cX7_meets 2 (some .int), .fieldLink RX7 123 "BallBoxesModel" "finding" "I"] ++ wsX70)
def wsX7_lacks : List Cond := .code yX7_lacks cX7_lacks 4 (some .int) :: ([.fieldLink RX7 51 "BallBoxesModel" "isThere" "[Z", .fieldLink RX7 54 "BallBoxesModel" "forms" "[I", .fieldLink RX7 57 "BallBoxesModel" "sizes" "[I", .methodLink RX7 66 yX7_in, .static yX7_in, .initialized RX7, .code yX7_in cX7_in 3 (some .boolean)] ++ wsX70)
def wsX7_put : List Cond := .code yX7_put cX7_put 6 (some .int) :: ([.fieldLink RX7 60 "BallBoxesModel" "items" "[I", .methodLink RX7 126 yX7_isSheet, .static yX7_isSheet, .initialized RX7, .code yX7_isSheet cX7_isSheet 1 (some .boolean), .methodLink RX7 66 yX7_in, .static yX7_in, .code yX7_in cX7_in 3 (some .boolean), .methodLink RX7 133 yX7_lacks, .instanceMethod yX7_lacks, .selects RX7 yX7_lacks yX7_lacks, .code yX7_lacks cX7_lacks 4 (some .int), .fieldLink RX7 51 "BallBoxesModel" "isThere" "[Z", .fieldLink RX7 54 "BallBoxesModel" "forms" "[I", .fieldLink RX7 57 "BallBoxesModel" "sizes" "[I", .methodLink RX7 130 yX7_meets, .instanceMethod yX7_meets, .selects RX7 yX7_meets yX7_meets, .code yX7_meets cX7_meets 2 (some .int), .fieldLink RX7 123 "BallBoxesModel" "finding" "I"] ++ wsX70)
def wsX7_get : List Cond := .code yX7_get cX7_get 5 (some .int) :: ([.constant RX7 137 (-2147483648), .fieldLink RX7 123 "BallBoxesModel" "finding" "I", .fieldLink RX7 60 "BallBoxesModel" "items" "[I", .methodLink RX7 126 yX7_isSheet, .static yX7_isSheet, .initialized RX7, .code yX7_isSheet cX7_isSheet 1 (some .boolean), .methodLink RX7 66 yX7_in, .static yX7_in, .code yX7_in cX7_in 3 (some .boolean), .methodLink RX7 133 yX7_lacks, .instanceMethod yX7_lacks, .selects RX7 yX7_lacks yX7_lacks, .code yX7_lacks cX7_lacks 4 (some .int), .fieldLink RX7 51 "BallBoxesModel" "isThere" "[Z", .fieldLink RX7 54 "BallBoxesModel" "forms" "[I", .fieldLink RX7 57 "BallBoxesModel" "sizes" "[I"] ++ wsX70)
def wsX7_copy : List Cond := .code yX7_copy cX7_copy 7 (some .int) :: ([.fieldLink RX7 51 "BallBoxesModel" "isThere" "[Z", .fieldLink RX7 54 "BallBoxesModel" "forms" "[I", .fieldLink RX7 57 "BallBoxesModel" "sizes" "[I", .fieldLink RX7 63 "BallBoxesModel" "moved" "[I", .fieldLink RX7 60 "BallBoxesModel" "items" "[I", .methodLink RX7 126 yX7_isSheet, .static yX7_isSheet, .initialized RX7, .code yX7_isSheet cX7_isSheet 1 (some .boolean), .methodLink RX7 66 yX7_in, .static yX7_in, .code yX7_in cX7_in 3 (some .boolean), .methodLink RX7 130 yX7_meets, .instanceMethod yX7_meets, .selects RX7 yX7_meets yX7_meets, .code yX7_meets cX7_meets 2 (some .int), .fieldLink RX7 123 "BallBoxesModel" "finding" "I"] ++ wsX70)
def wsX7_load : List Cond := .code yX7_load cX7_load 4 (some .int) :: ([.fieldLink RX7 51 "BallBoxesModel" "isThere" "[Z", .fieldLink RX7 57 "BallBoxesModel" "sizes" "[I", .fieldLink RX7 7 "BallBoxesModel" "boxes" "[Z", .fieldLink RX7 60 "BallBoxesModel" "items" "[I", .methodLink RX7 126 yX7_isSheet, .static yX7_isSheet, .initialized RX7, .code yX7_isSheet cX7_isSheet 1 (some .boolean), .methodLink RX7 66 yX7_in, .static yX7_in, .code yX7_in cX7_in 3 (some .boolean), .methodLink RX7 130 yX7_meets, .instanceMethod yX7_meets, .selects RX7 yX7_meets yX7_meets, .code yX7_meets cX7_meets 2 (some .int), .fieldLink RX7 123 "BallBoxesModel" "finding" "I"] ++ wsX70)
def wsX7_write : List Cond := .code yX7_write cX7_write 5 (some .int) :: ([.fieldLink RX7 51 "BallBoxesModel" "isThere" "[Z", .fieldLink RX7 57 "BallBoxesModel" "sizes" "[I", .fieldLink RX7 60 "BallBoxesModel" "items" "[I", .fieldLink RX7 7 "BallBoxesModel" "boxes" "[Z", .methodLink RX7 126 yX7_isSheet, .static yX7_isSheet, .initialized RX7, .code yX7_isSheet cX7_isSheet 1 (some .boolean), .methodLink RX7 66 yX7_in, .static yX7_in, .code yX7_in cX7_in 3 (some .boolean), .methodLink RX7 130 yX7_meets, .instanceMethod yX7_meets, .selects RX7 yX7_meets yX7_meets, .code yX7_meets cX7_meets 2 (some .int), .fieldLink RX7 123 "BallBoxesModel" "finding" "I"] ++ wsX70)
def wsX7_count : List Cond := .code yX7_count cX7_count 2 (some .int) :: ([.fieldLink RX7 38 "BallBoxesModel" "ringN" "I", .fieldLink RX7 104 "BallBoxesModel" "told" "I", .fieldLink RX7 74 "BallBoxesModel" "done" "I", .fieldLink RX7 123 "BallBoxesModel" "finding" "I", .methodLink RX7 70 yX7_balls, .instanceMethod yX7_balls, .selects RX7 yX7_balls yX7_balls, .initialized RX7, .code yX7_balls cX7_balls 3 (some .int), .fieldLink RX7 7 "BallBoxesModel" "boxes" "[Z", .methodLink RX7 138 yX7_ringBalls, .instanceMethod yX7_ringBalls, .selects RX7 yX7_ringBalls yX7_ringBalls, .code yX7_ringBalls cX7_ringBalls 3 (some .int), .fieldLink RX7 42 "BallBoxesModel" "ring" "[Z"] ++ wsX70)
def wsX7_digest : List Cond := .code yX7_digest cX7_digest 4 (some .long) :: ([.constantLong RX7 141 (17), .constantLong RX7 143 (31), .fieldLink RX7 7 "BallBoxesModel" "boxes" "[Z", .fieldLink RX7 38 "BallBoxesModel" "ringN" "I", .fieldLink RX7 42 "BallBoxesModel" "ring" "[Z", .methodLink RX7 145 yX7_count, .instanceMethod yX7_count, .selects RX7 yX7_count yX7_count, .initialized RX7, .code yX7_count cX7_count 2 (some .int), .fieldLink RX7 104 "BallBoxesModel" "told" "I", .fieldLink RX7 74 "BallBoxesModel" "done" "I", .fieldLink RX7 123 "BallBoxesModel" "finding" "I", .methodLink RX7 70 yX7_balls, .instanceMethod yX7_balls, .selects RX7 yX7_balls yX7_balls, .code yX7_balls cX7_balls 3 (some .int), .methodLink RX7 138 yX7_ringBalls, .instanceMethod yX7_ringBalls, .selects RX7 yX7_ringBalls yX7_ringBalls, .code yX7_ringBalls cX7_ringBalls 3 (some .int)] ++ wsX70)
def wsJ9_max_7cf53 : List Cond := .code yJ9_max_7cf53 cJ9_max_7cf53 2 (some .int) :: ([])
def wsJ9_min_7cf53 : List Cond := .code yJ9_min_7cf53 cJ9_min_7cf53 2 (some .int) :: ([])
theorem dX0_init_0 : decode cX0_init 0 = .ok (.aload_n 0, 1) := by decide +kernel
theorem dX0_init_1 : decode cX0_init 1 = .ok (.invokespecial 3, 3) := by decide +kernel
theorem dX0_init_4 : decode cX0_init 4 = .ok (.aload_n 0, 1) := by decide +kernel
theorem dX0_init_5 : decode cX0_init 5 = .ok (.sipush 240, 3) := by decide +kernel
theorem dX0_init_8 : decode cX0_init 8 = .ok (.newarray .int, 2) := by decide +kernel
theorem dX0_init_10 : decode cX0_init 10 = .ok (.putfield 9, 3) := by decide +kernel
theorem dX0_init_13 : decode cX0_init 13 = .ok (.return_, 1) := by decide +kernel
set_option maxRecDepth 20000 in
theorem ggX0_heapsOf_X0_begin : GoodIn wsX0_heapsOf wsX0_begin := goodIn_r _ [5, 6, 7, 8, 9, 10, 11, 12, 13, 14, 15, 16, 21, 22, 23, 24] (by decide +kernel) (by decide +kernel)
set_option maxRecDepth 20000 in
theorem gX0_heapsOf_X0_begin : GoodIn wsX0_heapsOf (wsV RX0 15 RX0 yX0_begin wsX0_begin) := goodIn_app (goodIn_of _ (by decide +kernel)) ggX0_heapsOf_X0_begin
set_option maxRecDepth 20000 in
theorem ggX0_heapsOf_X0_takeOut : GoodIn wsX0_heapsOf wsX0_takeOut := goodIn_r _ [20, 7, 6, 21, 22] (by decide +kernel) (by decide +kernel)
set_option maxRecDepth 20000 in
theorem gX0_heapsOf_X0_takeOut : GoodIn wsX0_heapsOf (wsV RX0 19 RX0 yX0_takeOut wsX0_takeOut) := goodIn_app (goodIn_of _ (by decide +kernel)) ggX0_heapsOf_X0_takeOut
theorem dX0_heapsOf_0 : decode cX0_heapsOf 0 = .ok (.aload_n 0, 1) := by decide +kernel
theorem dX0_heapsOf_1 : decode cX0_heapsOf 1 = .ok (.aload_n 1, 1) := by decide +kernel
theorem dX0_heapsOf_2 : decode cX0_heapsOf 2 = .ok (.invokevirtual 15, 3) := by decide +kernel
theorem dX0_heapsOf_5 : decode cX0_heapsOf 5 = .ok (.aload_n 0, 1) := by decide +kernel
theorem dX0_heapsOf_6 : decode cX0_heapsOf 6 = .ok (.invokevirtual 19, 3) := by decide +kernel
theorem dX0_heapsOf_9 : decode cX0_heapsOf 9 = .ok (.ireturn, 1) := by decide +kernel
set_option maxRecDepth 20000 in
theorem ggX0_countsAbove_X0_begin : GoodIn wsX0_countsAbove wsX0_begin := goodIn_r _ [5, 6, 7, 8, 9, 10, 11, 12, 13, 14, 15, 16, 21, 22, 23, 24] (by decide +kernel) (by decide +kernel)
set_option maxRecDepth 20000 in
theorem gX0_countsAbove_X0_begin : GoodIn wsX0_countsAbove (wsV RX0 15 RX0 yX0_begin wsX0_begin) := goodIn_app (goodIn_of _ (by decide +kernel)) ggX0_countsAbove_X0_begin
set_option maxRecDepth 20000 in
theorem ggX0_countsAbove_X0_takeOut : GoodIn wsX0_countsAbove wsX0_takeOut := goodIn_r _ [20, 7, 6, 21, 22] (by decide +kernel) (by decide +kernel)
set_option maxRecDepth 20000 in
theorem gX0_countsAbove_X0_takeOut : GoodIn wsX0_countsAbove (wsV RX0 19 RX0 yX0_takeOut wsX0_takeOut) := goodIn_app (goodIn_of _ (by decide +kernel)) ggX0_countsAbove_X0_takeOut
theorem dX0_countsAbove_0 : decode cX0_countsAbove 0 = .ok (.aload_n 0, 1) := by decide +kernel
theorem dX0_countsAbove_1 : decode cX0_countsAbove 1 = .ok (.aload_n 1, 1) := by decide +kernel
theorem dX0_countsAbove_2 : decode cX0_countsAbove 2 = .ok (.invokevirtual 15, 3) := by decide +kernel
theorem dX0_countsAbove_5 : decode cX0_countsAbove 5 = .ok (.iconst 0, 1) := by decide +kernel
theorem dX0_countsAbove_6 : decode cX0_countsAbove 6 = .ok (.istore_n 3, 1) := by decide +kernel
theorem dX0_countsAbove_7 : decode cX0_countsAbove 7 = .ok (.iconst 0, 1) := by decide +kernel
theorem dX0_countsAbove_8 : decode cX0_countsAbove 8 = .ok (.istore 4, 2) := by decide +kernel
theorem dX0_countsAbove_10 : decode cX0_countsAbove 10 = .ok (.iload 4, 2) := by decide +kernel
theorem dX0_countsAbove_12 : decode cX0_countsAbove 12 = .ok (.sipush 240, 3) := by decide +kernel
theorem dX0_countsAbove_15 : decode cX0_countsAbove 15 = .ok (.if_icmp .ge 23, 3) := by decide +kernel
theorem dX0_countsAbove_18 : decode cX0_countsAbove 18 = .ok (.aload_n 0, 1) := by decide +kernel
theorem dX0_countsAbove_19 : decode cX0_countsAbove 19 = .ok (.invokevirtual 19, 3) := by decide +kernel
theorem dX0_countsAbove_22 : decode cX0_countsAbove 22 = .ok (.iload_n 2, 1) := by decide +kernel
theorem dX0_countsAbove_23 : decode cX0_countsAbove 23 = .ok (.if_icmp .gt 6, 3) := by decide +kernel
theorem dX0_countsAbove_26 : decode cX0_countsAbove 26 = .ok (.goto 12, 3) := by decide +kernel
theorem dX0_countsAbove_29 : decode cX0_countsAbove 29 = .ok (.iinc 3 1, 3) := by decide +kernel
theorem dX0_countsAbove_32 : decode cX0_countsAbove 32 = .ok (.iinc 4 1, 3) := by decide +kernel
theorem dX0_countsAbove_35 : decode cX0_countsAbove 35 = .ok (.goto (-25), 3) := by decide +kernel
theorem dX0_countsAbove_38 : decode cX0_countsAbove 38 = .ok (.iload_n 3, 1) := by decide +kernel
theorem dX0_countsAbove_39 : decode cX0_countsAbove 39 = .ok (.ireturn, 1) := by decide +kernel
set_option maxRecDepth 20000 in
theorem ggX0_begin_X3_ballAt : GoodIn wsX0_begin wsX3_ballAt := goodIn_r _ [7, 8, 9, 10, 11, 14, 15] (by decide +kernel) (by decide +kernel)
set_option maxRecDepth 20000 in
theorem gX0_begin_X3_ballAt : GoodIn wsX0_begin (wsV RX0 23 RX3 yX3_ballAt wsX3_ballAt) := goodIn_app (goodIn_of _ (by decide +kernel)) ggX0_begin_X3_ballAt
theorem dX0_begin_0 : decode cX0_begin 0 = .ok (.iconst 0, 1) := by decide +kernel
theorem dX0_begin_1 : decode cX0_begin 1 = .ok (.istore_n 2, 1) := by decide +kernel
theorem dX0_begin_2 : decode cX0_begin 2 = .ok (.iload_n 2, 1) := by decide +kernel
theorem dX0_begin_3 : decode cX0_begin 3 = .ok (.sipush 240, 3) := by decide +kernel
theorem dX0_begin_6 : decode cX0_begin 6 = .ok (.if_icmp .ge 20, 3) := by decide +kernel
theorem dX0_begin_9 : decode cX0_begin 9 = .ok (.aload_n 0, 1) := by decide +kernel
theorem dX0_begin_10 : decode cX0_begin 10 = .ok (.getfield 9, 3) := by decide +kernel
theorem dX0_begin_13 : decode cX0_begin 13 = .ok (.iload_n 2, 1) := by decide +kernel
theorem dX0_begin_14 : decode cX0_begin 14 = .ok (.aload_n 1, 1) := by decide +kernel
theorem dX0_begin_15 : decode cX0_begin 15 = .ok (.iload_n 2, 1) := by decide +kernel
theorem dX0_begin_16 : decode cX0_begin 16 = .ok (.invokevirtual 23, 3) := by decide +kernel
theorem dX0_begin_19 : decode cX0_begin 19 = .ok (.iastore, 1) := by decide +kernel
theorem dX0_begin_20 : decode cX0_begin 20 = .ok (.iinc 2 1, 3) := by decide +kernel
theorem dX0_begin_23 : decode cX0_begin 23 = .ok (.goto (-21), 3) := by decide +kernel
theorem dX0_begin_26 : decode cX0_begin 26 = .ok (.aload_n 0, 1) := by decide +kernel
theorem dX0_begin_27 : decode cX0_begin 27 = .ok (.sipush 240, 3) := by decide +kernel
theorem dX0_begin_30 : decode cX0_begin 30 = .ok (.putfield 29, 3) := by decide +kernel
theorem dX0_begin_33 : decode cX0_begin 33 = .ok (.return_, 1) := by decide +kernel
theorem dX0_takeOut_0 : decode cX0_takeOut 0 = .ok (.iconst 0, 1) := by decide +kernel
theorem dX0_takeOut_1 : decode cX0_takeOut 1 = .ok (.istore_n 1, 1) := by decide +kernel
theorem dX0_takeOut_2 : decode cX0_takeOut 2 = .ok (.iconst 0, 1) := by decide +kernel
theorem dX0_takeOut_3 : decode cX0_takeOut 3 = .ok (.istore_n 2, 1) := by decide +kernel
theorem dX0_takeOut_4 : decode cX0_takeOut 4 = .ok (.iconst 0, 1) := by decide +kernel
theorem dX0_takeOut_5 : decode cX0_takeOut 5 = .ok (.istore_n 3, 1) := by decide +kernel
theorem dX0_takeOut_6 : decode cX0_takeOut 6 = .ok (.iload_n 3, 1) := by decide +kernel
theorem dX0_takeOut_7 : decode cX0_takeOut 7 = .ok (.aload_n 0, 1) := by decide +kernel
theorem dX0_takeOut_8 : decode cX0_takeOut 8 = .ok (.getfield 29, 3) := by decide +kernel
theorem dX0_takeOut_11 : decode cX0_takeOut 11 = .ok (.if_icmp .ge 103, 3) := by decide +kernel
theorem dX0_takeOut_14 : decode cX0_takeOut 14 = .ok (.iload_n 3, 1) := by decide +kernel
theorem dX0_takeOut_15 : decode cX0_takeOut 15 = .ok (.sipush 240, 3) := by decide +kernel
theorem dX0_takeOut_18 : decode cX0_takeOut 18 = .ok (.if_icmp .ge 96, 3) := by decide +kernel
theorem dX0_takeOut_21 : decode cX0_takeOut 21 = .ok (.aload_n 0, 1) := by decide +kernel
theorem dX0_takeOut_22 : decode cX0_takeOut 22 = .ok (.getfield 9, 3) := by decide +kernel
theorem dX0_takeOut_25 : decode cX0_takeOut 25 = .ok (.iload_n 3, 1) := by decide +kernel
theorem dX0_takeOut_26 : decode cX0_takeOut 26 = .ok (.iaload, 1) := by decide +kernel
theorem dX0_takeOut_27 : decode cX0_takeOut 27 = .ok (.ifCond .eq 7, 3) := by decide +kernel
theorem dX0_takeOut_30 : decode cX0_takeOut 30 = .ok (.iconst 1, 1) := by decide +kernel
theorem dX0_takeOut_31 : decode cX0_takeOut 31 = .ok (.goto 4, 3) := by decide +kernel
theorem dX0_takeOut_34 : decode cX0_takeOut 34 = .ok (.iconst 0, 1) := by decide +kernel
theorem dX0_takeOut_35 : decode cX0_takeOut 35 = .ok (.istore 4, 2) := by decide +kernel
theorem dX0_takeOut_37 : decode cX0_takeOut 37 = .ok (.iload_n 3, 1) := by decide +kernel
theorem dX0_takeOut_38 : decode cX0_takeOut 38 = .ok (.iconst 1, 1) := by decide +kernel
theorem dX0_takeOut_39 : decode cX0_takeOut 39 = .ok (.iadd, 1) := by decide +kernel
theorem dX0_takeOut_40 : decode cX0_takeOut 40 = .ok (.aload_n 0, 1) := by decide +kernel
theorem dX0_takeOut_41 : decode cX0_takeOut 41 = .ok (.getfield 29, 3) := by decide +kernel
theorem dX0_takeOut_44 : decode cX0_takeOut 44 = .ok (.if_icmp .ge 23, 3) := by decide +kernel
theorem dX0_takeOut_47 : decode cX0_takeOut 47 = .ok (.iload_n 3, 1) := by decide +kernel
theorem dX0_takeOut_48 : decode cX0_takeOut 48 = .ok (.iconst 1, 1) := by decide +kernel
theorem dX0_takeOut_49 : decode cX0_takeOut 49 = .ok (.iadd, 1) := by decide +kernel
theorem dX0_takeOut_50 : decode cX0_takeOut 50 = .ok (.sipush 240, 3) := by decide +kernel
theorem dX0_takeOut_53 : decode cX0_takeOut 53 = .ok (.if_icmp .ge 14, 3) := by decide +kernel
theorem dX0_takeOut_56 : decode cX0_takeOut 56 = .ok (.aload_n 0, 1) := by decide +kernel
theorem dX0_takeOut_57 : decode cX0_takeOut 57 = .ok (.getfield 9, 3) := by decide +kernel
theorem dX0_takeOut_60 : decode cX0_takeOut 60 = .ok (.iload_n 3, 1) := by decide +kernel
theorem dX0_takeOut_61 : decode cX0_takeOut 61 = .ok (.iconst 1, 1) := by decide +kernel
theorem dX0_takeOut_62 : decode cX0_takeOut 62 = .ok (.iadd, 1) := by decide +kernel
theorem dX0_takeOut_63 : decode cX0_takeOut 63 = .ok (.iaload, 1) := by decide +kernel
theorem dX0_takeOut_64 : decode cX0_takeOut 64 = .ok (.ifCond .ne 7, 3) := by decide +kernel
theorem dX0_takeOut_67 : decode cX0_takeOut 67 = .ok (.iconst 1, 1) := by decide +kernel
theorem dX0_takeOut_68 : decode cX0_takeOut 68 = .ok (.goto 4, 3) := by decide +kernel
theorem dX0_takeOut_71 : decode cX0_takeOut 71 = .ok (.iconst 0, 1) := by decide +kernel
theorem dX0_takeOut_72 : decode cX0_takeOut 72 = .ok (.istore 5, 2) := by decide +kernel
theorem dX0_takeOut_74 : decode cX0_takeOut 74 = .ok (.iload 4, 2) := by decide +kernel
theorem dX0_takeOut_76 : decode cX0_takeOut 76 = .ok (.ifCond .eq 17, 3) := by decide +kernel
theorem dX0_takeOut_79 : decode cX0_takeOut 79 = .ok (.iload 5, 2) := by decide +kernel
theorem dX0_takeOut_81 : decode cX0_takeOut 81 = .ok (.ifCond .eq 12, 3) := by decide +kernel
theorem dX0_takeOut_84 : decode cX0_takeOut 84 = .ok (.iinc 1 1, 3) := by decide +kernel
theorem dX0_takeOut_87 : decode cX0_takeOut 87 = .ok (.iinc 3 2, 3) := by decide +kernel
theorem dX0_takeOut_90 : decode cX0_takeOut 90 = .ok (.goto 21, 3) := by decide +kernel
theorem dX0_takeOut_93 : decode cX0_takeOut 93 = .ok (.aload_n 0, 1) := by decide +kernel
theorem dX0_takeOut_94 : decode cX0_takeOut 94 = .ok (.getfield 9, 3) := by decide +kernel
theorem dX0_takeOut_97 : decode cX0_takeOut 97 = .ok (.iload_n 2, 1) := by decide +kernel
theorem dX0_takeOut_98 : decode cX0_takeOut 98 = .ok (.aload_n 0, 1) := by decide +kernel
theorem dX0_takeOut_99 : decode cX0_takeOut 99 = .ok (.getfield 9, 3) := by decide +kernel
theorem dX0_takeOut_102 : decode cX0_takeOut 102 = .ok (.iload_n 3, 1) := by decide +kernel
theorem dX0_takeOut_103 : decode cX0_takeOut 103 = .ok (.iaload, 1) := by decide +kernel
theorem dX0_takeOut_104 : decode cX0_takeOut 104 = .ok (.iastore, 1) := by decide +kernel
theorem dX0_takeOut_105 : decode cX0_takeOut 105 = .ok (.iinc 2 1, 3) := by decide +kernel
theorem dX0_takeOut_108 : decode cX0_takeOut 108 = .ok (.iinc 3 1, 3) := by decide +kernel
theorem dX0_takeOut_111 : decode cX0_takeOut 111 = .ok (.goto (-105), 3) := by decide +kernel
theorem dX0_takeOut_114 : decode cX0_takeOut 114 = .ok (.aload_n 0, 1) := by decide +kernel
theorem dX0_takeOut_115 : decode cX0_takeOut 115 = .ok (.iload_n 2, 1) := by decide +kernel
theorem dX0_takeOut_116 : decode cX0_takeOut 116 = .ok (.putfield 29, 3) := by decide +kernel
theorem dX0_takeOut_119 : decode cX0_takeOut 119 = .ok (.iload_n 1, 1) := by decide +kernel
theorem dX0_takeOut_120 : decode cX0_takeOut 120 = .ok (.ireturn, 1) := by decide +kernel
theorem dX1_init_0 : decode cX1_init 0 = .ok (.aload_n 0, 1) := by decide +kernel
theorem dX1_init_1 : decode cX1_init 1 = .ok (.invokespecial 1, 3) := by decide +kernel
theorem dX1_init_4 : decode cX1_init 4 = .ok (.aload_n 0, 1) := by decide +kernel
theorem dX1_init_5 : decode cX1_init 5 = .ok (.iconst 1, 1) := by decide +kernel
theorem dX1_init_6 : decode cX1_init 6 = .ok (.putfield 7, 3) := by decide +kernel
theorem dX1_init_9 : decode cX1_init 9 = .ok (.return_, 1) := by decide +kernel
theorem dX1_become_0 : decode cX1_become 0 = .ok (.aload_n 0, 1) := by decide +kernel
theorem dX1_become_1 : decode cX1_become 1 = .ok (.iload_n 1, 1) := by decide +kernel
theorem dX1_become_2 : decode cX1_become 2 = .ok (.putfield 7, 3) := by decide +kernel
theorem dX1_become_5 : decode cX1_become 5 = .ok (.aload_n 0, 1) := by decide +kernel
theorem dX1_become_6 : decode cX1_become 6 = .ok (.lload_n 2, 1) := by decide +kernel
theorem dX1_become_7 : decode cX1_become 7 = .ok (.putfield 13, 3) := by decide +kernel
theorem dX1_become_10 : decode cX1_become 10 = .ok (.return_, 1) := by decide +kernel
theorem dX1_isRingBox_0 : decode cX1_isRingBox 0 = .ok (.iload_n 1, 1) := by decide +kernel
theorem dX1_isRingBox_1 : decode cX1_isRingBox 1 = .ok (.ifCond .lt 15, 3) := by decide +kernel
theorem dX1_isRingBox_4 : decode cX1_isRingBox 4 = .ok (.iload_n 1, 1) := by decide +kernel
theorem dX1_isRingBox_5 : decode cX1_isRingBox 5 = .ok (.aload_n 0, 1) := by decide +kernel
theorem dX1_isRingBox_6 : decode cX1_isRingBox 6 = .ok (.getfield 7, 3) := by decide +kernel
theorem dX1_isRingBox_9 : decode cX1_isRingBox 9 = .ok (.if_icmp .ge 7, 3) := by decide +kernel
theorem dX1_isRingBox_12 : decode cX1_isRingBox 12 = .ok (.iconst 1, 1) := by decide +kernel
theorem dX1_isRingBox_13 : decode cX1_isRingBox 13 = .ok (.goto 4, 3) := by decide +kernel
theorem dX1_isRingBox_16 : decode cX1_isRingBox 16 = .ok (.iconst 0, 1) := by decide +kernel
theorem dX1_isRingBox_17 : decode cX1_isRingBox 17 = .ok (.ireturn, 1) := by decide +kernel
theorem dX1_ballAt_0 : decode cX1_ballAt 0 = .ok (.aload_n 0, 1) := by decide +kernel
theorem dX1_ballAt_1 : decode cX1_ballAt 1 = .ok (.getfield 13, 3) := by decide +kernel
theorem dX1_ballAt_4 : decode cX1_ballAt 4 = .ok (.iload_n 1, 1) := by decide +kernel
theorem dX1_ballAt_5 : decode cX1_ballAt 5 = .ok (.lushr, 1) := by decide +kernel
theorem dX1_ballAt_6 : decode cX1_ballAt 6 = .ok (.l2i, 1) := by decide +kernel
theorem dX1_ballAt_7 : decode cX1_ballAt 7 = .ok (.iconst 1, 1) := by decide +kernel
theorem dX1_ballAt_8 : decode cX1_ballAt 8 = .ok (.iand, 1) := by decide +kernel
theorem dX1_ballAt_9 : decode cX1_ballAt 9 = .ok (.ireturn, 1) := by decide +kernel
set_option maxRecDepth 20000 in
theorem ggX1_turnBy_X1_goRound : GoodIn wsX1_turnBy wsX1_goRound := goodIn_r _ [8, 9, 2, 1, 10, 11, 12, 7, 13, 3, 14, 15, 16, 17, 18, 19, 20] (by decide +kernel) (by decide +kernel)
set_option maxRecDepth 20000 in
theorem gX1_turnBy_X1_goRound : GoodIn wsX1_turnBy (wsV RX1 17 RX1 yX1_goRound wsX1_goRound) := goodIn_app (goodIn_of _ (by decide +kernel)) ggX1_turnBy_X1_goRound
theorem dX1_turnBy_0 : decode cX1_turnBy 0 = .ok (.aload_n 0, 1) := by decide +kernel
theorem dX1_turnBy_1 : decode cX1_turnBy 1 = .ok (.iload_n 1, 1) := by decide +kernel
theorem dX1_turnBy_2 : decode cX1_turnBy 2 = .ok (.iconst 0, 1) := by decide +kernel
theorem dX1_turnBy_3 : decode cX1_turnBy 3 = .ok (.invokevirtual 17, 3) := by decide +kernel
theorem dX1_turnBy_6 : decode cX1_turnBy 6 = .ok (.aload_n 0, 1) := by decide +kernel
theorem dX1_turnBy_7 : decode cX1_turnBy 7 = .ok (.getfield 21, 3) := by decide +kernel
theorem dX1_turnBy_10 : decode cX1_turnBy 10 = .ok (.istore_n 2, 1) := by decide +kernel
theorem dX1_turnBy_11 : decode cX1_turnBy 11 = .ok (.iload_n 2, 1) := by decide +kernel
theorem dX1_turnBy_12 : decode cX1_turnBy 12 = .ok (.ifCond .eq 9, 3) := by decide +kernel
theorem dX1_turnBy_15 : decode cX1_turnBy 15 = .ok (.aload_n 0, 1) := by decide +kernel
theorem dX1_turnBy_16 : decode cX1_turnBy 16 = .ok (.iload_n 1, 1) := by decide +kernel
theorem dX1_turnBy_17 : decode cX1_turnBy 17 = .ok (.iload_n 2, 1) := by decide +kernel
theorem dX1_turnBy_18 : decode cX1_turnBy 18 = .ok (.invokevirtual 17, 3) := by decide +kernel
theorem dX1_turnBy_21 : decode cX1_turnBy 21 = .ok (.aload_n 0, 1) := by decide +kernel
theorem dX1_turnBy_22 : decode cX1_turnBy 22 = .ok (.aload_n 0, 1) := by decide +kernel
theorem dX1_turnBy_23 : decode cX1_turnBy 23 = .ok (.getfield 24, 3) := by decide +kernel
theorem dX1_turnBy_26 : decode cX1_turnBy 26 = .ok (.putfield 13, 3) := by decide +kernel
theorem dX1_turnBy_29 : decode cX1_turnBy 29 = .ok (.iload_n 2, 1) := by decide +kernel
theorem dX1_turnBy_30 : decode cX1_turnBy 30 = .ok (.ireturn, 1) := by decide +kernel
set_option maxRecDepth 20000 in
theorem ggX1_goRound_X1_ballAt : GoodIn wsX1_goRound wsX1_ballAt := goodIn_r _ [8, 9, 13, 14, 15, 16] (by decide +kernel) (by decide +kernel)
set_option maxRecDepth 20000 in
theorem gX1_goRound_X1_ballAt : GoodIn wsX1_goRound (wsV RX1 27 RX1 yX1_ballAt wsX1_ballAt) := goodIn_app (goodIn_of _ (by decide +kernel)) ggX1_goRound_X1_ballAt
set_option maxRecDepth 20000 in
theorem ggX1_goRound_X6_loadBehind : GoodIn wsX1_goRound wsX6_loadBehind := goodIn_r _ [12] (by decide +kernel) (by decide +kernel)
set_option maxRecDepth 20000 in
theorem gX1_goRound_X6_loadBehind_n31 : GoodIn wsX1_goRound (wsX6_loadBehind) := ggX1_goRound_X6_loadBehind
theorem dX1_goRound_0 : decode cX1_goRound 0 = .ok (.iload_n 2, 1) := by decide +kernel
theorem dX1_goRound_1 : decode cX1_goRound 1 = .ok (.istore_n 3, 1) := by decide +kernel
theorem dX1_goRound_2 : decode cX1_goRound 2 = .ok (.lconst 0, 1) := by decide +kernel
theorem dX1_goRound_3 : decode cX1_goRound 3 = .ok (.lstore 4, 2) := by decide +kernel
theorem dX1_goRound_5 : decode cX1_goRound 5 = .ok (.iconst 0, 1) := by decide +kernel
theorem dX1_goRound_6 : decode cX1_goRound 6 = .ok (.istore 6, 2) := by decide +kernel
theorem dX1_goRound_8 : decode cX1_goRound 8 = .ok (.iload 6, 2) := by decide +kernel
theorem dX1_goRound_10 : decode cX1_goRound 10 = .ok (.aload_n 0, 1) := by decide +kernel
theorem dX1_goRound_11 : decode cX1_goRound 11 = .ok (.getfield 7, 3) := by decide +kernel
theorem dX1_goRound_14 : decode cX1_goRound 14 = .ok (.if_icmp .ge 45, 3) := by decide +kernel
theorem dX1_goRound_17 : decode cX1_goRound 17 = .ok (.aload_n 0, 1) := by decide +kernel
theorem dX1_goRound_18 : decode cX1_goRound 18 = .ok (.iload 6, 2) := by decide +kernel
theorem dX1_goRound_20 : decode cX1_goRound 20 = .ok (.invokevirtual 27, 3) := by decide +kernel
theorem dX1_goRound_23 : decode cX1_goRound 23 = .ok (.istore 7, 2) := by decide +kernel
theorem dX1_goRound_25 : decode cX1_goRound 25 = .ok (.iload_n 3, 1) := by decide +kernel
theorem dX1_goRound_26 : decode cX1_goRound 26 = .ok (.iload 7, 2) := by decide +kernel
theorem dX1_goRound_28 : decode cX1_goRound 28 = .ok (.iload_n 1, 1) := by decide +kernel
theorem dX1_goRound_29 : decode cX1_goRound 29 = .ok (.invokestatic 31, 3) := by decide +kernel
theorem dX1_goRound_32 : decode cX1_goRound 32 = .ok (.istore 8, 2) := by decide +kernel
theorem dX1_goRound_34 : decode cX1_goRound 34 = .ok (.lload 4, 2) := by decide +kernel
theorem dX1_goRound_36 : decode cX1_goRound 36 = .ok (.iload 7, 2) := by decide +kernel
theorem dX1_goRound_38 : decode cX1_goRound 38 = .ok (.iload_n 3, 1) := by decide +kernel
theorem dX1_goRound_39 : decode cX1_goRound 39 = .ok (.iadd, 1) := by decide +kernel
theorem dX1_goRound_40 : decode cX1_goRound 40 = .ok (.iload 8, 2) := by decide +kernel
theorem dX1_goRound_42 : decode cX1_goRound 42 = .ok (.isub, 1) := by decide +kernel
theorem dX1_goRound_43 : decode cX1_goRound 43 = .ok (.i2l, 1) := by decide +kernel
theorem dX1_goRound_44 : decode cX1_goRound 44 = .ok (.iload 6, 2) := by decide +kernel
theorem dX1_goRound_46 : decode cX1_goRound 46 = .ok (.lshl, 1) := by decide +kernel
theorem dX1_goRound_47 : decode cX1_goRound 47 = .ok (.lor, 1) := by decide +kernel
theorem dX1_goRound_48 : decode cX1_goRound 48 = .ok (.lstore 4, 2) := by decide +kernel
theorem dX1_goRound_50 : decode cX1_goRound 50 = .ok (.iload 8, 2) := by decide +kernel
theorem dX1_goRound_52 : decode cX1_goRound 52 = .ok (.istore_n 3, 1) := by decide +kernel
theorem dX1_goRound_53 : decode cX1_goRound 53 = .ok (.iinc 6 1, 3) := by decide +kernel
theorem dX1_goRound_56 : decode cX1_goRound 56 = .ok (.goto (-48), 3) := by decide +kernel
theorem dX1_goRound_59 : decode cX1_goRound 59 = .ok (.aload_n 0, 1) := by decide +kernel
theorem dX1_goRound_60 : decode cX1_goRound 60 = .ok (.lload 4, 2) := by decide +kernel
theorem dX1_goRound_62 : decode cX1_goRound 62 = .ok (.putfield 24, 3) := by decide +kernel
theorem dX1_goRound_65 : decode cX1_goRound 65 = .ok (.aload_n 0, 1) := by decide +kernel
theorem dX1_goRound_66 : decode cX1_goRound 66 = .ok (.iload_n 3, 1) := by decide +kernel
theorem dX1_goRound_67 : decode cX1_goRound 67 = .ok (.putfield 21, 3) := by decide +kernel
theorem dX1_goRound_70 : decode cX1_goRound 70 = .ok (.return_, 1) := by decide +kernel
set_option maxRecDepth 20000 in
theorem ggX2_init_X1_init : GoodIn wsX2_init wsX1_init := goodIn_r _ [11, 12, 2, 3, 13, 14, 15, 16, 17] (by decide +kernel) (by decide +kernel)
set_option maxRecDepth 20000 in
theorem gX2_init_X1_init_n11 : GoodIn wsX2_init (wsX1_init) := ggX2_init_X1_init
theorem dX2_init_0 : decode cX2_init 0 = .ok (.aload_n 0, 1) := by decide +kernel
theorem dX2_init_1 : decode cX2_init 1 = .ok (.invokespecial 3, 3) := by decide +kernel
theorem dX2_init_4 : decode cX2_init 4 = .ok (.aload_n 0, 1) := by decide +kernel
theorem dX2_init_5 : decode cX2_init 5 = .ok (.new 9, 3) := by decide +kernel
theorem dX2_init_8 : decode cX2_init 8 = .ok (.dup, 1) := by decide +kernel
theorem dX2_init_9 : decode cX2_init 9 = .ok (.invokespecial 11, 3) := by decide +kernel
theorem dX2_init_12 : decode cX2_init 12 = .ok (.putfield 12, 3) := by decide +kernel
theorem dX2_init_15 : decode cX2_init 15 = .ok (.aload_n 0, 1) := by decide +kernel
theorem dX2_init_16 : decode cX2_init 16 = .ok (.bipush 64, 2) := by decide +kernel
theorem dX2_init_18 : decode cX2_init 18 = .ok (.newarray .long, 2) := by decide +kernel
theorem dX2_init_20 : decode cX2_init 20 = .ok (.putfield 18, 3) := by decide +kernel
theorem dX2_init_23 : decode cX2_init 23 = .ok (.return_, 1) := by decide +kernel
set_option maxRecDepth 20000 in
theorem ggX2_periodOf_X1_become : GoodIn wsX2_periodOf wsX1_become := goodIn_r _ [6, 7, 8, 28, 29, 30, 31] (by decide +kernel) (by decide +kernel)
set_option maxRecDepth 20000 in
theorem gX2_periodOf_X1_become : GoodIn wsX2_periodOf (wsV RX2 30 RX1 yX1_become wsX1_become) := goodIn_app (goodIn_of _ (by decide +kernel)) ggX2_periodOf_X1_become
set_option maxRecDepth 20000 in
theorem ggX2_periodOf_X1_turnBy : GoodIn wsX2_periodOf wsX1_turnBy := goodIn_r _ [12, 13, 14, 8, 15, 16, 17, 5, 18, 7, 19, 20, 21, 22, 23, 24, 25, 28, 29, 30, 31] (by decide +kernel) (by decide +kernel)
set_option maxRecDepth 20000 in
theorem gX2_periodOf_X1_turnBy : GoodIn wsX2_periodOf (wsV RX2 34 RX1 yX1_turnBy wsX1_turnBy) := goodIn_app (goodIn_of _ (by decide +kernel)) ggX2_periodOf_X1_turnBy
theorem dX2_periodOf_0 : decode cX2_periodOf 0 = .ok (.aload_n 0, 1) := by decide +kernel
theorem dX2_periodOf_1 : decode cX2_periodOf 1 = .ok (.getfield 12, 3) := by decide +kernel
theorem dX2_periodOf_4 : decode cX2_periodOf 4 = .ok (.aload_n 1, 1) := by decide +kernel
theorem dX2_periodOf_5 : decode cX2_periodOf 5 = .ok (.getfield 22, 3) := by decide +kernel
theorem dX2_periodOf_8 : decode cX2_periodOf 8 = .ok (.aload_n 1, 1) := by decide +kernel
theorem dX2_periodOf_9 : decode cX2_periodOf 9 = .ok (.getfield 26, 3) := by decide +kernel
theorem dX2_periodOf_12 : decode cX2_periodOf 12 = .ok (.invokevirtual 30, 3) := by decide +kernel
theorem dX2_periodOf_15 : decode cX2_periodOf 15 = .ok (.iconst 1, 1) := by decide +kernel
theorem dX2_periodOf_16 : decode cX2_periodOf 16 = .ok (.istore_n 3, 1) := by decide +kernel
theorem dX2_periodOf_17 : decode cX2_periodOf 17 = .ok (.iload_n 3, 1) := by decide +kernel
theorem dX2_periodOf_18 : decode cX2_periodOf 18 = .ok (.sipush 20000, 3) := by decide +kernel
theorem dX2_periodOf_21 : decode cX2_periodOf 21 = .ok (.if_icmp .gt 35, 3) := by decide +kernel
theorem dX2_periodOf_24 : decode cX2_periodOf 24 = .ok (.aload_n 0, 1) := by decide +kernel
theorem dX2_periodOf_25 : decode cX2_periodOf 25 = .ok (.getfield 12, 3) := by decide +kernel
theorem dX2_periodOf_28 : decode cX2_periodOf 28 = .ok (.iload_n 2, 1) := by decide +kernel
theorem dX2_periodOf_29 : decode cX2_periodOf 29 = .ok (.invokevirtual 34, 3) := by decide +kernel
theorem dX2_periodOf_32 : decode cX2_periodOf 32 = .ok (.pop, 1) := by decide +kernel
theorem dX2_periodOf_33 : decode cX2_periodOf 33 = .ok (.aload_n 0, 1) := by decide +kernel
theorem dX2_periodOf_34 : decode cX2_periodOf 34 = .ok (.getfield 12, 3) := by decide +kernel
theorem dX2_periodOf_37 : decode cX2_periodOf 37 = .ok (.getfield 26, 3) := by decide +kernel
theorem dX2_periodOf_40 : decode cX2_periodOf 40 = .ok (.aload_n 1, 1) := by decide +kernel
theorem dX2_periodOf_41 : decode cX2_periodOf 41 = .ok (.getfield 26, 3) := by decide +kernel
theorem dX2_periodOf_44 : decode cX2_periodOf 44 = .ok (.lcmp, 1) := by decide +kernel
theorem dX2_periodOf_45 : decode cX2_periodOf 45 = .ok (.ifCond .ne 5, 3) := by decide +kernel
theorem dX2_periodOf_48 : decode cX2_periodOf 48 = .ok (.iload_n 3, 1) := by decide +kernel
theorem dX2_periodOf_49 : decode cX2_periodOf 49 = .ok (.ireturn, 1) := by decide +kernel
theorem dX2_periodOf_50 : decode cX2_periodOf 50 = .ok (.iinc 3 1, 3) := by decide +kernel
theorem dX2_periodOf_53 : decode cX2_periodOf 53 = .ok (.goto (-36), 3) := by decide +kernel
theorem dX2_periodOf_56 : decode cX2_periodOf 56 = .ok (.bipush (-5), 2) := by decide +kernel
theorem dX2_periodOf_58 : decode cX2_periodOf 58 = .ok (.ireturn, 1) := by decide +kernel
set_option maxRecDepth 20000 in
theorem ggX2_countAll_J6_bitCount_0f7a4 : GoodIn wsX2_countAll wsJ6_bitCount_0f7a4 := goodIn_r _ [4, 5, 6, 7] (by decide +kernel) (by decide +kernel)
set_option maxRecDepth 20000 in
theorem gX2_countAll_J6_bitCount_0f7a4 : GoodIn wsX2_countAll (va_wsS RX2 38 yJ6_bitCount_0f7a4 wsJ6_bitCount_0f7a4) := goodIn_app (goodIn_of _ (by decide +kernel)) ggX2_countAll_J6_bitCount_0f7a4
theorem dX2_countAll_0 : decode cX2_countAll 0 = .ok (.iconst 0, 1) := by decide +kernel
theorem dX2_countAll_1 : decode cX2_countAll 1 = .ok (.istore_n 3, 1) := by decide +kernel
theorem dX2_countAll_2 : decode cX2_countAll 2 = .ok (.iconst 0, 1) := by decide +kernel
theorem dX2_countAll_3 : decode cX2_countAll 3 = .ok (.istore 4, 2) := by decide +kernel
theorem dX2_countAll_5 : decode cX2_countAll 5 = .ok (.iload 4, 2) := by decide +kernel
theorem dX2_countAll_7 : decode cX2_countAll 7 = .ok (.iconst 1, 1) := by decide +kernel
theorem dX2_countAll_8 : decode cX2_countAll 8 = .ok (.iload_n 1, 1) := by decide +kernel
theorem dX2_countAll_9 : decode cX2_countAll 9 = .ok (.ishl, 1) := by decide +kernel
theorem dX2_countAll_10 : decode cX2_countAll 10 = .ok (.if_icmp .ge 21, 3) := by decide +kernel
theorem dX2_countAll_13 : decode cX2_countAll 13 = .ok (.iload 4, 2) := by decide +kernel
theorem dX2_countAll_15 : decode cX2_countAll 15 = .ok (.invokestatic 38, 3) := by decide +kernel
theorem dX2_countAll_18 : decode cX2_countAll 18 = .ok (.iload_n 2, 1) := by decide +kernel
theorem dX2_countAll_19 : decode cX2_countAll 19 = .ok (.if_icmp .ne 6, 3) := by decide +kernel
theorem dX2_countAll_22 : decode cX2_countAll 22 = .ok (.iinc 3 1, 3) := by decide +kernel
theorem dX2_countAll_25 : decode cX2_countAll 25 = .ok (.iinc 4 1, 3) := by decide +kernel
theorem dX2_countAll_28 : decode cX2_countAll 28 = .ok (.goto (-23), 3) := by decide +kernel
theorem dX2_countAll_31 : decode cX2_countAll 31 = .ok (.iload_n 3, 1) := by decide +kernel
theorem dX2_countAll_32 : decode cX2_countAll 32 = .ok (.ireturn, 1) := by decide +kernel
set_option maxRecDepth 20000 in
theorem ggX2_countWithPeriod_X2_forget : GoodIn wsX2_countWithPeriod wsX2_forget := goodIn_r _ [5, 6, 51, 52] (by decide +kernel) (by decide +kernel)
set_option maxRecDepth 20000 in
theorem gX2_countWithPeriod_X2_forget : GoodIn wsX2_countWithPeriod (wsV RX2 43 RX2 yX2_forget wsX2_forget) := goodIn_app (goodIn_of _ (by decide +kernel)) ggX2_countWithPeriod_X2_forget
set_option maxRecDepth 20000 in
theorem ggX2_countWithPeriod_J6_bitCount_0f7a4 : GoodIn wsX2_countWithPeriod wsJ6_bitCount_0f7a4 := goodIn_r _ [10, 11, 12, 13] (by decide +kernel) (by decide +kernel)
set_option maxRecDepth 20000 in
theorem gX2_countWithPeriod_J6_bitCount_0f7a4 : GoodIn wsX2_countWithPeriod (va_wsS RX2 38 yJ6_bitCount_0f7a4 wsJ6_bitCount_0f7a4) := goodIn_app (goodIn_of _ (by decide +kernel)) ggX2_countWithPeriod_J6_bitCount_0f7a4
set_option maxRecDepth 20000 in
theorem ggX2_countWithPeriod_X2_isSeen : GoodIn wsX2_countWithPeriod wsX2_isSeen := goodIn_r _ [17, 6, 51, 52] (by decide +kernel) (by decide +kernel)
set_option maxRecDepth 20000 in
theorem gX2_countWithPeriod_X2_isSeen : GoodIn wsX2_countWithPeriod (wsV RX2 46 RX2 yX2_isSeen wsX2_isSeen) := goodIn_app (goodIn_of _ (by decide +kernel)) ggX2_countWithPeriod_X2_isSeen
set_option maxRecDepth 20000 in
theorem ggX2_countWithPeriod_X2_goThrough : GoodIn wsX2_countWithPeriod wsX2_goThrough := goodIn_r _ [21, 22, 23, 24, 25, 26, 27, 28, 29, 30, 31, 32, 33, 34, 35, 36, 37, 38, 39, 40, 41, 42, 43, 44, 45, 46, 47, 48, 49, 4, 50, 6, 51, 52, 53, 54, 55, 56] (by decide +kernel) (by decide +kernel)
set_option maxRecDepth 20000 in
theorem gX2_countWithPeriod_X2_goThrough : GoodIn wsX2_countWithPeriod (wsV RX2 50 RX2 yX2_goThrough wsX2_goThrough) := goodIn_app (goodIn_of _ (by decide +kernel)) ggX2_countWithPeriod_X2_goThrough
theorem dX2_countWithPeriod_0 : decode cX2_countWithPeriod 0 = .ok (.aload_n 0, 1) := by decide +kernel
theorem dX2_countWithPeriod_1 : decode cX2_countWithPeriod 1 = .ok (.invokevirtual 43, 3) := by decide +kernel
theorem dX2_countWithPeriod_4 : decode cX2_countWithPeriod 4 = .ok (.iconst 0, 1) := by decide +kernel
theorem dX2_countWithPeriod_5 : decode cX2_countWithPeriod 5 = .ok (.istore 5, 2) := by decide +kernel
theorem dX2_countWithPeriod_7 : decode cX2_countWithPeriod 7 = .ok (.iconst 0, 1) := by decide +kernel
theorem dX2_countWithPeriod_8 : decode cX2_countWithPeriod 8 = .ok (.istore 6, 2) := by decide +kernel
theorem dX2_countWithPeriod_10 : decode cX2_countWithPeriod 10 = .ok (.iload 6, 2) := by decide +kernel
theorem dX2_countWithPeriod_12 : decode cX2_countWithPeriod 12 = .ok (.iconst 1, 1) := by decide +kernel
theorem dX2_countWithPeriod_13 : decode cX2_countWithPeriod 13 = .ok (.iload_n 1, 1) := by decide +kernel
theorem dX2_countWithPeriod_14 : decode cX2_countWithPeriod 14 = .ok (.ishl, 1) := by decide +kernel
theorem dX2_countWithPeriod_15 : decode cX2_countWithPeriod 15 = .ok (.if_icmp .ge 51, 3) := by decide +kernel
theorem dX2_countWithPeriod_18 : decode cX2_countWithPeriod 18 = .ok (.iload 6, 2) := by decide +kernel
theorem dX2_countWithPeriod_20 : decode cX2_countWithPeriod 20 = .ok (.invokestatic 38, 3) := by decide +kernel
theorem dX2_countWithPeriod_23 : decode cX2_countWithPeriod 23 = .ok (.iload_n 2, 1) := by decide +kernel
theorem dX2_countWithPeriod_24 : decode cX2_countWithPeriod 24 = .ok (.if_icmp .ne 36, 3) := by decide +kernel
theorem dX2_countWithPeriod_27 : decode cX2_countWithPeriod 27 = .ok (.aload_n 0, 1) := by decide +kernel
theorem dX2_countWithPeriod_28 : decode cX2_countWithPeriod 28 = .ok (.iload 6, 2) := by decide +kernel
theorem dX2_countWithPeriod_30 : decode cX2_countWithPeriod 30 = .ok (.invokevirtual 46, 3) := by decide +kernel
theorem dX2_countWithPeriod_33 : decode cX2_countWithPeriod 33 = .ok (.ifCond .ne 27, 3) := by decide +kernel
theorem dX2_countWithPeriod_36 : decode cX2_countWithPeriod 36 = .ok (.aload_n 0, 1) := by decide +kernel
theorem dX2_countWithPeriod_37 : decode cX2_countWithPeriod 37 = .ok (.iload_n 1, 1) := by decide +kernel
theorem dX2_countWithPeriod_38 : decode cX2_countWithPeriod 38 = .ok (.iload 6, 2) := by decide +kernel
theorem dX2_countWithPeriod_40 : decode cX2_countWithPeriod 40 = .ok (.iload_n 3, 1) := by decide +kernel
theorem dX2_countWithPeriod_41 : decode cX2_countWithPeriod 41 = .ok (.invokevirtual 50, 3) := by decide +kernel
theorem dX2_countWithPeriod_44 : decode cX2_countWithPeriod 44 = .ok (.istore 7, 2) := by decide +kernel
theorem dX2_countWithPeriod_46 : decode cX2_countWithPeriod 46 = .ok (.iload 7, 2) := by decide +kernel
theorem dX2_countWithPeriod_48 : decode cX2_countWithPeriod 48 = .ok (.iload 4, 2) := by decide +kernel
theorem dX2_countWithPeriod_50 : decode cX2_countWithPeriod 50 = .ok (.if_icmp .ne 10, 3) := by decide +kernel
theorem dX2_countWithPeriod_53 : decode cX2_countWithPeriod 53 = .ok (.iload 5, 2) := by decide +kernel
theorem dX2_countWithPeriod_55 : decode cX2_countWithPeriod 55 = .ok (.iload 7, 2) := by decide +kernel
theorem dX2_countWithPeriod_57 : decode cX2_countWithPeriod 57 = .ok (.iadd, 1) := by decide +kernel
theorem dX2_countWithPeriod_58 : decode cX2_countWithPeriod 58 = .ok (.istore 5, 2) := by decide +kernel
theorem dX2_countWithPeriod_60 : decode cX2_countWithPeriod 60 = .ok (.iinc 6 1, 3) := by decide +kernel
theorem dX2_countWithPeriod_63 : decode cX2_countWithPeriod 63 = .ok (.goto (-53), 3) := by decide +kernel
theorem dX2_countWithPeriod_66 : decode cX2_countWithPeriod 66 = .ok (.iload 5, 2) := by decide +kernel
theorem dX2_countWithPeriod_68 : decode cX2_countWithPeriod 68 = .ok (.ireturn, 1) := by decide +kernel
set_option maxRecDepth 20000 in
theorem ggX2_goThrough_X1_become : GoodIn wsX2_goThrough wsX1_become := goodIn_r _ [6, 7, 8, 34, 35, 36, 37] (by decide +kernel) (by decide +kernel)
set_option maxRecDepth 20000 in
theorem gX2_goThrough_X1_become : GoodIn wsX2_goThrough (wsV RX2 30 RX1 yX1_become wsX1_become) := goodIn_app (goodIn_of _ (by decide +kernel)) ggX2_goThrough_X1_become
set_option maxRecDepth 20000 in
theorem ggX2_goThrough_X1_turnBy : GoodIn wsX2_goThrough wsX1_turnBy := goodIn_r _ [12, 13, 14, 8, 15, 16, 17, 5, 18, 7, 19, 20, 21, 22, 23, 24, 25, 34, 35, 36, 37] (by decide +kernel) (by decide +kernel)
set_option maxRecDepth 20000 in
theorem gX2_goThrough_X1_turnBy : GoodIn wsX2_goThrough (wsV RX2 34 RX1 yX1_turnBy wsX1_turnBy) := goodIn_app (goodIn_of _ (by decide +kernel)) ggX2_goThrough_X1_turnBy
set_option maxRecDepth 20000 in
theorem ggX2_goThrough_X2_see : GoodIn wsX2_goThrough wsX2_see := goodIn_r _ [30, 31, 32, 33] (by decide +kernel) (by decide +kernel)
set_option maxRecDepth 20000 in
theorem gX2_goThrough_X2_see : GoodIn wsX2_goThrough (wsV RX2 54 RX2 yX2_see wsX2_see) := goodIn_app (goodIn_of _ (by decide +kernel)) ggX2_goThrough_X2_see
theorem dX2_goThrough_0 : decode cX2_goThrough 0 = .ok (.aload_n 0, 1) := by decide +kernel
theorem dX2_goThrough_1 : decode cX2_goThrough 1 = .ok (.getfield 12, 3) := by decide +kernel
theorem dX2_goThrough_4 : decode cX2_goThrough 4 = .ok (.iload_n 1, 1) := by decide +kernel
theorem dX2_goThrough_5 : decode cX2_goThrough 5 = .ok (.iload_n 2, 1) := by decide +kernel
theorem dX2_goThrough_6 : decode cX2_goThrough 6 = .ok (.i2l, 1) := by decide +kernel
theorem dX2_goThrough_7 : decode cX2_goThrough 7 = .ok (.invokevirtual 30, 3) := by decide +kernel
theorem dX2_goThrough_10 : decode cX2_goThrough 10 = .ok (.iconst 1, 1) := by decide +kernel
theorem dX2_goThrough_11 : decode cX2_goThrough 11 = .ok (.istore 4, 2) := by decide +kernel
theorem dX2_goThrough_13 : decode cX2_goThrough 13 = .ok (.iload 4, 2) := by decide +kernel
theorem dX2_goThrough_15 : decode cX2_goThrough 15 = .ok (.sipush 20000, 3) := by decide +kernel
theorem dX2_goThrough_18 : decode cX2_goThrough 18 = .ok (.if_icmp .gt 46, 3) := by decide +kernel
theorem dX2_goThrough_21 : decode cX2_goThrough 21 = .ok (.aload_n 0, 1) := by decide +kernel
theorem dX2_goThrough_22 : decode cX2_goThrough 22 = .ok (.getfield 12, 3) := by decide +kernel
theorem dX2_goThrough_25 : decode cX2_goThrough 25 = .ok (.iload_n 3, 1) := by decide +kernel
theorem dX2_goThrough_26 : decode cX2_goThrough 26 = .ok (.invokevirtual 34, 3) := by decide +kernel
theorem dX2_goThrough_29 : decode cX2_goThrough 29 = .ok (.pop, 1) := by decide +kernel
theorem dX2_goThrough_30 : decode cX2_goThrough 30 = .ok (.aload_n 0, 1) := by decide +kernel
theorem dX2_goThrough_31 : decode cX2_goThrough 31 = .ok (.aload_n 0, 1) := by decide +kernel
theorem dX2_goThrough_32 : decode cX2_goThrough 32 = .ok (.getfield 12, 3) := by decide +kernel
theorem dX2_goThrough_35 : decode cX2_goThrough 35 = .ok (.getfield 26, 3) := by decide +kernel
theorem dX2_goThrough_38 : decode cX2_goThrough 38 = .ok (.l2i, 1) := by decide +kernel
theorem dX2_goThrough_39 : decode cX2_goThrough 39 = .ok (.invokevirtual 54, 3) := by decide +kernel
theorem dX2_goThrough_42 : decode cX2_goThrough 42 = .ok (.aload_n 0, 1) := by decide +kernel
theorem dX2_goThrough_43 : decode cX2_goThrough 43 = .ok (.getfield 12, 3) := by decide +kernel
theorem dX2_goThrough_46 : decode cX2_goThrough 46 = .ok (.getfield 26, 3) := by decide +kernel
theorem dX2_goThrough_49 : decode cX2_goThrough 49 = .ok (.iload_n 2, 1) := by decide +kernel
theorem dX2_goThrough_50 : decode cX2_goThrough 50 = .ok (.i2l, 1) := by decide +kernel
theorem dX2_goThrough_51 : decode cX2_goThrough 51 = .ok (.lcmp, 1) := by decide +kernel
theorem dX2_goThrough_52 : decode cX2_goThrough 52 = .ok (.ifCond .ne 6, 3) := by decide +kernel
theorem dX2_goThrough_55 : decode cX2_goThrough 55 = .ok (.iload 4, 2) := by decide +kernel
theorem dX2_goThrough_57 : decode cX2_goThrough 57 = .ok (.ireturn, 1) := by decide +kernel
theorem dX2_goThrough_58 : decode cX2_goThrough 58 = .ok (.iinc 4 1, 3) := by decide +kernel
theorem dX2_goThrough_61 : decode cX2_goThrough 61 = .ok (.goto (-48), 3) := by decide +kernel
theorem dX2_goThrough_64 : decode cX2_goThrough 64 = .ok (.bipush (-5), 2) := by decide +kernel
theorem dX2_goThrough_66 : decode cX2_goThrough 66 = .ok (.ireturn, 1) := by decide +kernel
theorem dX2_forget_0 : decode cX2_forget 0 = .ok (.iconst 0, 1) := by decide +kernel
theorem dX2_forget_1 : decode cX2_forget 1 = .ok (.istore_n 1, 1) := by decide +kernel
theorem dX2_forget_2 : decode cX2_forget 2 = .ok (.iload_n 1, 1) := by decide +kernel
theorem dX2_forget_3 : decode cX2_forget 3 = .ok (.aload_n 0, 1) := by decide +kernel
theorem dX2_forget_4 : decode cX2_forget 4 = .ok (.getfield 18, 3) := by decide +kernel
theorem dX2_forget_7 : decode cX2_forget 7 = .ok (.arraylength, 1) := by decide +kernel
theorem dX2_forget_8 : decode cX2_forget 8 = .ok (.if_icmp .ge 16, 3) := by decide +kernel
theorem dX2_forget_11 : decode cX2_forget 11 = .ok (.aload_n 0, 1) := by decide +kernel
theorem dX2_forget_12 : decode cX2_forget 12 = .ok (.getfield 18, 3) := by decide +kernel
theorem dX2_forget_15 : decode cX2_forget 15 = .ok (.iload_n 1, 1) := by decide +kernel
theorem dX2_forget_16 : decode cX2_forget 16 = .ok (.lconst 0, 1) := by decide +kernel
theorem dX2_forget_17 : decode cX2_forget 17 = .ok (.lastore, 1) := by decide +kernel
theorem dX2_forget_18 : decode cX2_forget 18 = .ok (.iinc 1 1, 3) := by decide +kernel
theorem dX2_forget_21 : decode cX2_forget 21 = .ok (.goto (-19), 3) := by decide +kernel
theorem dX2_forget_24 : decode cX2_forget 24 = .ok (.return_, 1) := by decide +kernel
theorem dX2_isSeen_0 : decode cX2_isSeen 0 = .ok (.iload_n 1, 1) := by decide +kernel
theorem dX2_isSeen_1 : decode cX2_isSeen 1 = .ok (.bipush 6, 2) := by decide +kernel
theorem dX2_isSeen_3 : decode cX2_isSeen 3 = .ok (.iushr, 1) := by decide +kernel
theorem dX2_isSeen_4 : decode cX2_isSeen 4 = .ok (.istore_n 2, 1) := by decide +kernel
theorem dX2_isSeen_5 : decode cX2_isSeen 5 = .ok (.iload_n 2, 1) := by decide +kernel
theorem dX2_isSeen_6 : decode cX2_isSeen 6 = .ok (.aload_n 0, 1) := by decide +kernel
theorem dX2_isSeen_7 : decode cX2_isSeen 7 = .ok (.getfield 18, 3) := by decide +kernel
theorem dX2_isSeen_10 : decode cX2_isSeen 10 = .ok (.arraylength, 1) := by decide +kernel
theorem dX2_isSeen_11 : decode cX2_isSeen 11 = .ok (.if_icmp .ge 25, 3) := by decide +kernel
theorem dX2_isSeen_14 : decode cX2_isSeen 14 = .ok (.aload_n 0, 1) := by decide +kernel
theorem dX2_isSeen_15 : decode cX2_isSeen 15 = .ok (.getfield 18, 3) := by decide +kernel
theorem dX2_isSeen_18 : decode cX2_isSeen 18 = .ok (.iload_n 2, 1) := by decide +kernel
theorem dX2_isSeen_19 : decode cX2_isSeen 19 = .ok (.laload, 1) := by decide +kernel
theorem dX2_isSeen_20 : decode cX2_isSeen 20 = .ok (.iload_n 1, 1) := by decide +kernel
theorem dX2_isSeen_21 : decode cX2_isSeen 21 = .ok (.bipush 63, 2) := by decide +kernel
theorem dX2_isSeen_23 : decode cX2_isSeen 23 = .ok (.iand, 1) := by decide +kernel
theorem dX2_isSeen_24 : decode cX2_isSeen 24 = .ok (.lushr, 1) := by decide +kernel
theorem dX2_isSeen_25 : decode cX2_isSeen 25 = .ok (.lconst 1, 1) := by decide +kernel
theorem dX2_isSeen_26 : decode cX2_isSeen 26 = .ok (.land, 1) := by decide +kernel
theorem dX2_isSeen_27 : decode cX2_isSeen 27 = .ok (.lconst 0, 1) := by decide +kernel
theorem dX2_isSeen_28 : decode cX2_isSeen 28 = .ok (.lcmp, 1) := by decide +kernel
theorem dX2_isSeen_29 : decode cX2_isSeen 29 = .ok (.ifCond .eq 7, 3) := by decide +kernel
theorem dX2_isSeen_32 : decode cX2_isSeen 32 = .ok (.iconst 1, 1) := by decide +kernel
theorem dX2_isSeen_33 : decode cX2_isSeen 33 = .ok (.goto 4, 3) := by decide +kernel
theorem dX2_isSeen_36 : decode cX2_isSeen 36 = .ok (.iconst 0, 1) := by decide +kernel
theorem dX2_isSeen_37 : decode cX2_isSeen 37 = .ok (.ireturn, 1) := by decide +kernel
theorem dX2_see_0 : decode cX2_see 0 = .ok (.iload_n 1, 1) := by decide +kernel
theorem dX2_see_1 : decode cX2_see 1 = .ok (.bipush 6, 2) := by decide +kernel
theorem dX2_see_3 : decode cX2_see 3 = .ok (.iushr, 1) := by decide +kernel
theorem dX2_see_4 : decode cX2_see 4 = .ok (.istore_n 2, 1) := by decide +kernel
theorem dX2_see_5 : decode cX2_see 5 = .ok (.iload_n 2, 1) := by decide +kernel
theorem dX2_see_6 : decode cX2_see 6 = .ok (.aload_n 0, 1) := by decide +kernel
theorem dX2_see_7 : decode cX2_see 7 = .ok (.getfield 18, 3) := by decide +kernel
theorem dX2_see_10 : decode cX2_see 10 = .ok (.arraylength, 1) := by decide +kernel
theorem dX2_see_11 : decode cX2_see 11 = .ok (.if_icmp .ge 18, 3) := by decide +kernel
theorem dX2_see_14 : decode cX2_see 14 = .ok (.aload_n 0, 1) := by decide +kernel
theorem dX2_see_15 : decode cX2_see 15 = .ok (.getfield 18, 3) := by decide +kernel
theorem dX2_see_18 : decode cX2_see 18 = .ok (.iload_n 2, 1) := by decide +kernel
theorem dX2_see_19 : decode cX2_see 19 = .ok (.dup2, 1) := by decide +kernel
theorem dX2_see_20 : decode cX2_see 20 = .ok (.laload, 1) := by decide +kernel
theorem dX2_see_21 : decode cX2_see 21 = .ok (.lconst 1, 1) := by decide +kernel
theorem dX2_see_22 : decode cX2_see 22 = .ok (.iload_n 1, 1) := by decide +kernel
theorem dX2_see_23 : decode cX2_see 23 = .ok (.bipush 63, 2) := by decide +kernel
theorem dX2_see_25 : decode cX2_see 25 = .ok (.iand, 1) := by decide +kernel
theorem dX2_see_26 : decode cX2_see 26 = .ok (.lshl, 1) := by decide +kernel
theorem dX2_see_27 : decode cX2_see 27 = .ok (.lor, 1) := by decide +kernel
theorem dX2_see_28 : decode cX2_see 28 = .ok (.lastore, 1) := by decide +kernel
theorem dX2_see_29 : decode cX2_see 29 = .ok (.return_, 1) := by decide +kernel
theorem dX3_init_0 : decode cX3_init 0 = .ok (.aload_n 0, 1) := by decide +kernel
theorem dX3_init_1 : decode cX3_init 1 = .ok (.invokespecial 3, 3) := by decide +kernel
theorem dX3_init_4 : decode cX3_init 4 = .ok (.aload_n 0, 1) := by decide +kernel
theorem dX3_init_5 : decode cX3_init 5 = .ok (.sipush 240, 3) := by decide +kernel
theorem dX3_init_8 : decode cX3_init 8 = .ok (.newarray .int, 2) := by decide +kernel
theorem dX3_init_10 : decode cX3_init 10 = .ok (.putfield 9, 3) := by decide +kernel
theorem dX3_init_13 : decode cX3_init 13 = .ok (.aload_n 0, 1) := by decide +kernel
theorem dX3_init_14 : decode cX3_init 14 = .ok (.sipush 240, 3) := by decide +kernel
theorem dX3_init_17 : decode cX3_init 17 = .ok (.newarray .int, 2) := by decide +kernel
theorem dX3_init_19 : decode cX3_init 19 = .ok (.putfield 15, 3) := by decide +kernel
theorem dX3_init_22 : decode cX3_init 22 = .ok (.return_, 1) := by decide +kernel
set_option maxRecDepth 20000 in
theorem ggX3_ballAt_X6_isBox : GoodIn wsX3_ballAt wsX6_isBox := goodIn_r _ [4] (by decide +kernel) (by decide +kernel)
set_option maxRecDepth 20000 in
theorem gX3_ballAt_X6_isBox_n18 : GoodIn wsX3_ballAt (wsX6_isBox) := ggX3_ballAt_X6_isBox
theorem dX3_ballAt_0 : decode cX3_ballAt 0 = .ok (.iload_n 1, 1) := by decide +kernel
theorem dX3_ballAt_1 : decode cX3_ballAt 1 = .ok (.invokestatic 18, 3) := by decide +kernel
theorem dX3_ballAt_4 : decode cX3_ballAt 4 = .ok (.ifCond .eq 12, 3) := by decide +kernel
theorem dX3_ballAt_7 : decode cX3_ballAt 7 = .ok (.aload_n 0, 1) := by decide +kernel
theorem dX3_ballAt_8 : decode cX3_ballAt 8 = .ok (.getfield 9, 3) := by decide +kernel
theorem dX3_ballAt_11 : decode cX3_ballAt 11 = .ok (.iload_n 1, 1) := by decide +kernel
theorem dX3_ballAt_12 : decode cX3_ballAt 12 = .ok (.iaload, 1) := by decide +kernel
theorem dX3_ballAt_13 : decode cX3_ballAt 13 = .ok (.goto 4, 3) := by decide +kernel
theorem dX3_ballAt_16 : decode cX3_ballAt 16 = .ok (.iconst 0, 1) := by decide +kernel
theorem dX3_ballAt_17 : decode cX3_ballAt 17 = .ok (.ireturn, 1) := by decide +kernel
set_option maxRecDepth 20000 in
theorem ggX3_place_X6_isBox : GoodIn wsX3_place wsX6_isBox := goodIn_r _ [4] (by decide +kernel) (by decide +kernel)
set_option maxRecDepth 20000 in
theorem gX3_place_X6_isBox_n18 : GoodIn wsX3_place (wsX6_isBox) := ggX3_place_X6_isBox
theorem dX3_place_0 : decode cX3_place 0 = .ok (.iload_n 1, 1) := by decide +kernel
theorem dX3_place_1 : decode cX3_place 1 = .ok (.invokestatic 18, 3) := by decide +kernel
theorem dX3_place_4 : decode cX3_place 4 = .ok (.ifCond .eq 10, 3) := by decide +kernel
theorem dX3_place_7 : decode cX3_place 7 = .ok (.aload_n 0, 1) := by decide +kernel
theorem dX3_place_8 : decode cX3_place 8 = .ok (.getfield 9, 3) := by decide +kernel
theorem dX3_place_11 : decode cX3_place 11 = .ok (.iload_n 1, 1) := by decide +kernel
theorem dX3_place_12 : decode cX3_place 12 = .ok (.iload_n 2, 1) := by decide +kernel
theorem dX3_place_13 : decode cX3_place 13 = .ok (.iastore, 1) := by decide +kernel
theorem dX3_place_14 : decode cX3_place 14 = .ok (.return_, 1) := by decide +kernel
set_option maxRecDepth 20000 in
theorem ggX3_makeBox_X6_isBox : GoodIn wsX3_makeBox wsX6_isBox := goodIn_r _ [4] (by decide +kernel) (by decide +kernel)
set_option maxRecDepth 20000 in
theorem gX3_makeBox_X6_isBox_n18 : GoodIn wsX3_makeBox (wsX6_isBox) := ggX3_makeBox_X6_isBox
theorem dX3_makeBox_0 : decode cX3_makeBox 0 = .ok (.iload_n 1, 1) := by decide +kernel
theorem dX3_makeBox_1 : decode cX3_makeBox 1 = .ok (.invokestatic 18, 3) := by decide +kernel
theorem dX3_makeBox_4 : decode cX3_makeBox 4 = .ok (.ifCond .eq 10, 3) := by decide +kernel
theorem dX3_makeBox_7 : decode cX3_makeBox 7 = .ok (.aload_n 0, 1) := by decide +kernel
theorem dX3_makeBox_8 : decode cX3_makeBox 8 = .ok (.getfield 15, 3) := by decide +kernel
theorem dX3_makeBox_11 : decode cX3_makeBox 11 = .ok (.iload_n 1, 1) := by decide +kernel
theorem dX3_makeBox_12 : decode cX3_makeBox 12 = .ok (.iload_n 2, 1) := by decide +kernel
theorem dX3_makeBox_13 : decode cX3_makeBox 13 = .ok (.iastore, 1) := by decide +kernel
theorem dX3_makeBox_14 : decode cX3_makeBox 14 = .ok (.return_, 1) := by decide +kernel
theorem dX3_clear_0 : decode cX3_clear 0 = .ok (.iconst 0, 1) := by decide +kernel
theorem dX3_clear_1 : decode cX3_clear 1 = .ok (.istore_n 1, 1) := by decide +kernel
theorem dX3_clear_2 : decode cX3_clear 2 = .ok (.iload_n 1, 1) := by decide +kernel
theorem dX3_clear_3 : decode cX3_clear 3 = .ok (.sipush 240, 3) := by decide +kernel
theorem dX3_clear_6 : decode cX3_clear 6 = .ok (.if_icmp .ge 16, 3) := by decide +kernel
theorem dX3_clear_9 : decode cX3_clear 9 = .ok (.aload_n 0, 1) := by decide +kernel
theorem dX3_clear_10 : decode cX3_clear 10 = .ok (.getfield 9, 3) := by decide +kernel
theorem dX3_clear_13 : decode cX3_clear 13 = .ok (.iload_n 1, 1) := by decide +kernel
theorem dX3_clear_14 : decode cX3_clear 14 = .ok (.iconst 0, 1) := by decide +kernel
theorem dX3_clear_15 : decode cX3_clear 15 = .ok (.iastore, 1) := by decide +kernel
theorem dX3_clear_16 : decode cX3_clear 16 = .ok (.iinc 1 1, 3) := by decide +kernel
theorem dX3_clear_19 : decode cX3_clear 19 = .ok (.goto (-17), 3) := by decide +kernel
theorem dX3_clear_22 : decode cX3_clear 22 = .ok (.return_, 1) := by decide +kernel
theorem dX3_balls_0 : decode cX3_balls 0 = .ok (.iconst 0, 1) := by decide +kernel
theorem dX3_balls_1 : decode cX3_balls 1 = .ok (.istore_n 1, 1) := by decide +kernel
theorem dX3_balls_2 : decode cX3_balls 2 = .ok (.iconst 0, 1) := by decide +kernel
theorem dX3_balls_3 : decode cX3_balls 3 = .ok (.istore_n 2, 1) := by decide +kernel
theorem dX3_balls_4 : decode cX3_balls 4 = .ok (.iload_n 2, 1) := by decide +kernel
theorem dX3_balls_5 : decode cX3_balls 5 = .ok (.sipush 240, 3) := by decide +kernel
theorem dX3_balls_8 : decode cX3_balls 8 = .ok (.if_icmp .ge 18, 3) := by decide +kernel
theorem dX3_balls_11 : decode cX3_balls 11 = .ok (.iload_n 1, 1) := by decide +kernel
theorem dX3_balls_12 : decode cX3_balls 12 = .ok (.aload_n 0, 1) := by decide +kernel
theorem dX3_balls_13 : decode cX3_balls 13 = .ok (.getfield 9, 3) := by decide +kernel
theorem dX3_balls_16 : decode cX3_balls 16 = .ok (.iload_n 2, 1) := by decide +kernel
theorem dX3_balls_17 : decode cX3_balls 17 = .ok (.iaload, 1) := by decide +kernel
theorem dX3_balls_18 : decode cX3_balls 18 = .ok (.iadd, 1) := by decide +kernel
theorem dX3_balls_19 : decode cX3_balls 19 = .ok (.istore_n 1, 1) := by decide +kernel
theorem dX3_balls_20 : decode cX3_balls 20 = .ok (.iinc 2 1, 3) := by decide +kernel
theorem dX3_balls_23 : decode cX3_balls 23 = .ok (.goto (-19), 3) := by decide +kernel
theorem dX3_balls_26 : decode cX3_balls 26 = .ok (.iload_n 1, 1) := by decide +kernel
theorem dX3_balls_27 : decode cX3_balls 27 = .ok (.ireturn, 1) := by decide +kernel
theorem dX3_firstBall_0 : decode cX3_firstBall 0 = .ok (.iconst 0, 1) := by decide +kernel
theorem dX3_firstBall_1 : decode cX3_firstBall 1 = .ok (.istore_n 1, 1) := by decide +kernel
theorem dX3_firstBall_2 : decode cX3_firstBall 2 = .ok (.iload_n 1, 1) := by decide +kernel
theorem dX3_firstBall_3 : decode cX3_firstBall 3 = .ok (.sipush 240, 3) := by decide +kernel
theorem dX3_firstBall_6 : decode cX3_firstBall 6 = .ok (.if_icmp .ge 20, 3) := by decide +kernel
theorem dX3_firstBall_9 : decode cX3_firstBall 9 = .ok (.aload_n 0, 1) := by decide +kernel
theorem dX3_firstBall_10 : decode cX3_firstBall 10 = .ok (.getfield 9, 3) := by decide +kernel
theorem dX3_firstBall_13 : decode cX3_firstBall 13 = .ok (.iload_n 1, 1) := by decide +kernel
theorem dX3_firstBall_14 : decode cX3_firstBall 14 = .ok (.iaload, 1) := by decide +kernel
theorem dX3_firstBall_15 : decode cX3_firstBall 15 = .ok (.ifCond .eq 5, 3) := by decide +kernel
theorem dX3_firstBall_18 : decode cX3_firstBall 18 = .ok (.iload_n 1, 1) := by decide +kernel
theorem dX3_firstBall_19 : decode cX3_firstBall 19 = .ok (.ireturn, 1) := by decide +kernel
theorem dX3_firstBall_20 : decode cX3_firstBall 20 = .ok (.iinc 1 1, 3) := by decide +kernel
theorem dX3_firstBall_23 : decode cX3_firstBall 23 = .ok (.goto (-21), 3) := by decide +kernel
theorem dX3_firstBall_26 : decode cX3_firstBall 26 = .ok (.iconst (-1), 1) := by decide +kernel
theorem dX3_firstBall_27 : decode cX3_firstBall 27 = .ok (.ireturn, 1) := by decide +kernel
theorem dX3_lastBall_0 : decode cX3_lastBall 0 = .ok (.sipush 239, 3) := by decide +kernel
theorem dX3_lastBall_3 : decode cX3_lastBall 3 = .ok (.istore_n 1, 1) := by decide +kernel
theorem dX3_lastBall_4 : decode cX3_lastBall 4 = .ok (.iload_n 1, 1) := by decide +kernel
theorem dX3_lastBall_5 : decode cX3_lastBall 5 = .ok (.ifCond .lt 20, 3) := by decide +kernel
theorem dX3_lastBall_8 : decode cX3_lastBall 8 = .ok (.aload_n 0, 1) := by decide +kernel
theorem dX3_lastBall_9 : decode cX3_lastBall 9 = .ok (.getfield 9, 3) := by decide +kernel
theorem dX3_lastBall_12 : decode cX3_lastBall 12 = .ok (.iload_n 1, 1) := by decide +kernel
theorem dX3_lastBall_13 : decode cX3_lastBall 13 = .ok (.iaload, 1) := by decide +kernel
theorem dX3_lastBall_14 : decode cX3_lastBall 14 = .ok (.ifCond .eq 5, 3) := by decide +kernel
theorem dX3_lastBall_17 : decode cX3_lastBall 17 = .ok (.iload_n 1, 1) := by decide +kernel
theorem dX3_lastBall_18 : decode cX3_lastBall 18 = .ok (.ireturn, 1) := by decide +kernel
theorem dX3_lastBall_19 : decode cX3_lastBall 19 = .ok (.iinc 1 (-1), 3) := by decide +kernel
theorem dX3_lastBall_22 : decode cX3_lastBall 22 = .ok (.goto (-18), 3) := by decide +kernel
theorem dX3_lastBall_25 : decode cX3_lastBall 25 = .ok (.iconst (-1), 1) := by decide +kernel
theorem dX3_lastBall_26 : decode cX3_lastBall 26 = .ok (.ireturn, 1) := by decide +kernel
set_option maxRecDepth 20000 in
theorem ggX3_bits_X3_ballAt : GoodIn wsX3_bits wsX3_ballAt := goodIn_r _ [5, 6, 7, 8, 9, 10, 11] (by decide +kernel) (by decide +kernel)
set_option maxRecDepth 20000 in
theorem gX3_bits_X3_ballAt : GoodIn wsX3_bits (wsV RX3 22 RX3 yX3_ballAt wsX3_ballAt) := goodIn_app (goodIn_of _ (by decide +kernel)) ggX3_bits_X3_ballAt
theorem dX3_bits_0 : decode cX3_bits 0 = .ok (.lconst 0, 1) := by decide +kernel
theorem dX3_bits_1 : decode cX3_bits 1 = .ok (.lstore_n 3, 1) := by decide +kernel
theorem dX3_bits_2 : decode cX3_bits 2 = .ok (.iconst 0, 1) := by decide +kernel
theorem dX3_bits_3 : decode cX3_bits 3 = .ok (.istore 5, 2) := by decide +kernel
theorem dX3_bits_5 : decode cX3_bits 5 = .ok (.iload 5, 2) := by decide +kernel
theorem dX3_bits_7 : decode cX3_bits 7 = .ok (.iload_n 2, 1) := by decide +kernel
theorem dX3_bits_8 : decode cX3_bits 8 = .ok (.if_icmp .ge 24, 3) := by decide +kernel
theorem dX3_bits_11 : decode cX3_bits 11 = .ok (.lload_n 3, 1) := by decide +kernel
theorem dX3_bits_12 : decode cX3_bits 12 = .ok (.aload_n 0, 1) := by decide +kernel
theorem dX3_bits_13 : decode cX3_bits 13 = .ok (.iload_n 1, 1) := by decide +kernel
theorem dX3_bits_14 : decode cX3_bits 14 = .ok (.iload 5, 2) := by decide +kernel
theorem dX3_bits_16 : decode cX3_bits 16 = .ok (.iadd, 1) := by decide +kernel
theorem dX3_bits_17 : decode cX3_bits 17 = .ok (.invokevirtual 22, 3) := by decide +kernel
theorem dX3_bits_20 : decode cX3_bits 20 = .ok (.i2l, 1) := by decide +kernel
theorem dX3_bits_21 : decode cX3_bits 21 = .ok (.iload 5, 2) := by decide +kernel
theorem dX3_bits_23 : decode cX3_bits 23 = .ok (.lshl, 1) := by decide +kernel
theorem dX3_bits_24 : decode cX3_bits 24 = .ok (.lor, 1) := by decide +kernel
theorem dX3_bits_25 : decode cX3_bits 25 = .ok (.lstore_n 3, 1) := by decide +kernel
theorem dX3_bits_26 : decode cX3_bits 26 = .ok (.iinc 5 1, 3) := by decide +kernel
theorem dX3_bits_29 : decode cX3_bits 29 = .ok (.goto (-24), 3) := by decide +kernel
theorem dX3_bits_32 : decode cX3_bits 32 = .ok (.lload_n 3, 1) := by decide +kernel
theorem dX3_bits_33 : decode cX3_bits 33 = .ok (.lreturn, 1) := by decide +kernel
set_option maxRecDepth 20000 in
theorem ggX3_takenBy_X6_loadBehind : GoodIn wsX3_takenBy wsX6_loadBehind := goodIn_r _ [4] (by decide +kernel) (by decide +kernel)
set_option maxRecDepth 20000 in
theorem gX3_takenBy_X6_loadBehind_n26 : GoodIn wsX3_takenBy (wsX6_loadBehind) := ggX3_takenBy_X6_loadBehind
theorem dX3_takenBy_0 : decode cX3_takenBy 0 = .ok (.iconst 0, 1) := by decide +kernel
theorem dX3_takenBy_1 : decode cX3_takenBy 1 = .ok (.istore_n 2, 1) := by decide +kernel
theorem dX3_takenBy_2 : decode cX3_takenBy 2 = .ok (.iconst 0, 1) := by decide +kernel
theorem dX3_takenBy_3 : decode cX3_takenBy 3 = .ok (.istore_n 3, 1) := by decide +kernel
theorem dX3_takenBy_4 : decode cX3_takenBy 4 = .ok (.iconst 0, 1) := by decide +kernel
theorem dX3_takenBy_5 : decode cX3_takenBy 5 = .ok (.istore 4, 2) := by decide +kernel
theorem dX3_takenBy_7 : decode cX3_takenBy 7 = .ok (.iload 4, 2) := by decide +kernel
theorem dX3_takenBy_9 : decode cX3_takenBy 9 = .ok (.sipush 240, 3) := by decide +kernel
theorem dX3_takenBy_12 : decode cX3_takenBy 12 = .ok (.if_icmp .ge 35, 3) := by decide +kernel
theorem dX3_takenBy_15 : decode cX3_takenBy 15 = .ok (.iload_n 3, 1) := by decide +kernel
theorem dX3_takenBy_16 : decode cX3_takenBy 16 = .ok (.aload_n 0, 1) := by decide +kernel
theorem dX3_takenBy_17 : decode cX3_takenBy 17 = .ok (.getfield 9, 3) := by decide +kernel
theorem dX3_takenBy_20 : decode cX3_takenBy 20 = .ok (.iload 4, 2) := by decide +kernel
theorem dX3_takenBy_22 : decode cX3_takenBy 22 = .ok (.iaload, 1) := by decide +kernel
theorem dX3_takenBy_23 : decode cX3_takenBy 23 = .ok (.iload_n 1, 1) := by decide +kernel
theorem dX3_takenBy_24 : decode cX3_takenBy 24 = .ok (.invokestatic 26, 3) := by decide +kernel
theorem dX3_takenBy_27 : decode cX3_takenBy 27 = .ok (.istore 5, 2) := by decide +kernel
theorem dX3_takenBy_29 : decode cX3_takenBy 29 = .ok (.iload 5, 2) := by decide +kernel
theorem dX3_takenBy_31 : decode cX3_takenBy 31 = .ok (.iload_n 3, 1) := by decide +kernel
theorem dX3_takenBy_32 : decode cX3_takenBy 32 = .ok (.if_icmp .le 6, 3) := by decide +kernel
theorem dX3_takenBy_35 : decode cX3_takenBy 35 = .ok (.iinc 2 1, 3) := by decide +kernel
theorem dX3_takenBy_38 : decode cX3_takenBy 38 = .ok (.iload 5, 2) := by decide +kernel
theorem dX3_takenBy_40 : decode cX3_takenBy 40 = .ok (.istore_n 3, 1) := by decide +kernel
theorem dX3_takenBy_41 : decode cX3_takenBy 41 = .ok (.iinc 4 1, 3) := by decide +kernel
theorem dX3_takenBy_44 : decode cX3_takenBy 44 = .ok (.goto (-37), 3) := by decide +kernel
theorem dX3_takenBy_47 : decode cX3_takenBy 47 = .ok (.iload_n 2, 1) := by decide +kernel
theorem dX3_takenBy_48 : decode cX3_takenBy 48 = .ok (.ireturn, 1) := by decide +kernel
set_option maxRecDepth 20000 in
theorem ggX3_makeByCarrier_X3_ballAt : GoodIn wsX3_makeByCarrier wsX3_ballAt := goodIn_r _ [5, 6, 7, 8, 9, 17, 18] (by decide +kernel) (by decide +kernel)
set_option maxRecDepth 20000 in
theorem gX3_makeByCarrier_X3_ballAt : GoodIn wsX3_makeByCarrier (wsV RX3 22 RX3 yX3_ballAt wsX3_ballAt) := goodIn_app (goodIn_of _ (by decide +kernel)) ggX3_makeByCarrier_X3_ballAt
set_option maxRecDepth 20000 in
theorem ggX3_makeByCarrier_X6_loadBehind : GoodIn wsX3_makeByCarrier wsX6_loadBehind := goodIn_r _ [11] (by decide +kernel) (by decide +kernel)
set_option maxRecDepth 20000 in
theorem gX3_makeByCarrier_X6_loadBehind_n26 : GoodIn wsX3_makeByCarrier (wsX6_loadBehind) := ggX3_makeByCarrier_X6_loadBehind
set_option maxRecDepth 20000 in
theorem ggX3_makeByCarrier_X3_makeBox : GoodIn wsX3_makeByCarrier wsX3_makeBox := goodIn_r _ [15, 16, 7, 8, 9, 17, 18] (by decide +kernel) (by decide +kernel)
set_option maxRecDepth 20000 in
theorem gX3_makeByCarrier_X3_makeBox : GoodIn wsX3_makeByCarrier (wsV RX3 30 RX3 yX3_makeBox wsX3_makeBox) := goodIn_app (goodIn_of _ (by decide +kernel)) ggX3_makeByCarrier_X3_makeBox
theorem dX3_makeByCarrier_0 : decode cX3_makeByCarrier 0 = .ok (.iconst 0, 1) := by decide +kernel
theorem dX3_makeByCarrier_1 : decode cX3_makeByCarrier 1 = .ok (.istore_n 3, 1) := by decide +kernel
theorem dX3_makeByCarrier_2 : decode cX3_makeByCarrier 2 = .ok (.iconst 0, 1) := by decide +kernel
theorem dX3_makeByCarrier_3 : decode cX3_makeByCarrier 3 = .ok (.istore 4, 2) := by decide +kernel
theorem dX3_makeByCarrier_5 : decode cX3_makeByCarrier 5 = .ok (.iload 4, 2) := by decide +kernel
theorem dX3_makeByCarrier_7 : decode cX3_makeByCarrier 7 = .ok (.sipush 240, 3) := by decide +kernel
theorem dX3_makeByCarrier_10 : decode cX3_makeByCarrier 10 = .ok (.if_icmp .ge 59, 3) := by decide +kernel
theorem dX3_makeByCarrier_13 : decode cX3_makeByCarrier 13 = .ok (.iload_n 2, 1) := by decide +kernel
theorem dX3_makeByCarrier_14 : decode cX3_makeByCarrier 14 = .ok (.ifCond .eq 8, 3) := by decide +kernel
theorem dX3_makeByCarrier_17 : decode cX3_makeByCarrier 17 = .ok (.iload 4, 2) := by decide +kernel
theorem dX3_makeByCarrier_19 : decode cX3_makeByCarrier 19 = .ok (.goto 9, 3) := by decide +kernel
theorem dX3_makeByCarrier_22 : decode cX3_makeByCarrier 22 = .ok (.sipush 239, 3) := by decide +kernel
theorem dX3_makeByCarrier_25 : decode cX3_makeByCarrier 25 = .ok (.iload 4, 2) := by decide +kernel
theorem dX3_makeByCarrier_27 : decode cX3_makeByCarrier 27 = .ok (.isub, 1) := by decide +kernel
theorem dX3_makeByCarrier_28 : decode cX3_makeByCarrier 28 = .ok (.istore 5, 2) := by decide +kernel
theorem dX3_makeByCarrier_30 : decode cX3_makeByCarrier 30 = .ok (.aload_n 0, 1) := by decide +kernel
theorem dX3_makeByCarrier_31 : decode cX3_makeByCarrier 31 = .ok (.iload 5, 2) := by decide +kernel
theorem dX3_makeByCarrier_33 : decode cX3_makeByCarrier 33 = .ok (.invokevirtual 22, 3) := by decide +kernel
theorem dX3_makeByCarrier_36 : decode cX3_makeByCarrier 36 = .ok (.istore 6, 2) := by decide +kernel
theorem dX3_makeByCarrier_38 : decode cX3_makeByCarrier 38 = .ok (.iload_n 3, 1) := by decide +kernel
theorem dX3_makeByCarrier_39 : decode cX3_makeByCarrier 39 = .ok (.iload 6, 2) := by decide +kernel
theorem dX3_makeByCarrier_41 : decode cX3_makeByCarrier 41 = .ok (.iload_n 1, 1) := by decide +kernel
theorem dX3_makeByCarrier_42 : decode cX3_makeByCarrier 42 = .ok (.invokestatic 26, 3) := by decide +kernel
theorem dX3_makeByCarrier_45 : decode cX3_makeByCarrier 45 = .ok (.istore 7, 2) := by decide +kernel
theorem dX3_makeByCarrier_47 : decode cX3_makeByCarrier 47 = .ok (.aload_n 0, 1) := by decide +kernel
theorem dX3_makeByCarrier_48 : decode cX3_makeByCarrier 48 = .ok (.iload 5, 2) := by decide +kernel
end
section
theorem dX3_makeByCarrier_50 : decode cX3_makeByCarrier 50 = .ok (.iload 6, 2) := by decide +kernel
theorem dX3_makeByCarrier_52 : decode cX3_makeByCarrier 52 = .ok (.iload_n 3, 1) := by decide +kernel
theorem dX3_makeByCarrier_53 : decode cX3_makeByCarrier 53 = .ok (.iadd, 1) := by decide +kernel
theorem dX3_makeByCarrier_54 : decode cX3_makeByCarrier 54 = .ok (.iload 7, 2) := by decide +kernel
theorem dX3_makeByCarrier_56 : decode cX3_makeByCarrier 56 = .ok (.isub, 1) := by decide +kernel
theorem dX3_makeByCarrier_57 : decode cX3_makeByCarrier 57 = .ok (.invokevirtual 30, 3) := by decide +kernel
theorem dX3_makeByCarrier_60 : decode cX3_makeByCarrier 60 = .ok (.iload 7, 2) := by decide +kernel
theorem dX3_makeByCarrier_62 : decode cX3_makeByCarrier 62 = .ok (.istore_n 3, 1) := by decide +kernel
theorem dX3_makeByCarrier_63 : decode cX3_makeByCarrier 63 = .ok (.iinc 4 1, 3) := by decide +kernel
theorem dX3_makeByCarrier_66 : decode cX3_makeByCarrier 66 = .ok (.goto (-61), 3) := by decide +kernel
theorem dX3_makeByCarrier_69 : decode cX3_makeByCarrier 69 = .ok (.iload_n 3, 1) := by decide +kernel
theorem dX3_makeByCarrier_70 : decode cX3_makeByCarrier 70 = .ok (.ireturn, 1) := by decide +kernel
theorem dX3_becomeMade_0 : decode cX3_becomeMade 0 = .ok (.iconst 0, 1) := by decide +kernel
theorem dX3_becomeMade_1 : decode cX3_becomeMade 1 = .ok (.istore_n 1, 1) := by decide +kernel
theorem dX3_becomeMade_2 : decode cX3_becomeMade 2 = .ok (.iconst 0, 1) := by decide +kernel
theorem dX3_becomeMade_3 : decode cX3_becomeMade 3 = .ok (.istore_n 2, 1) := by decide +kernel
theorem dX3_becomeMade_4 : decode cX3_becomeMade 4 = .ok (.iload_n 2, 1) := by decide +kernel
theorem dX3_becomeMade_5 : decode cX3_becomeMade 5 = .ok (.sipush 240, 3) := by decide +kernel
theorem dX3_becomeMade_8 : decode cX3_becomeMade 8 = .ok (.if_icmp .ge 39, 3) := by decide +kernel
theorem dX3_becomeMade_11 : decode cX3_becomeMade 11 = .ok (.aload_n 0, 1) := by decide +kernel
theorem dX3_becomeMade_12 : decode cX3_becomeMade 12 = .ok (.getfield 9, 3) := by decide +kernel
theorem dX3_becomeMade_15 : decode cX3_becomeMade 15 = .ok (.iload_n 2, 1) := by decide +kernel
theorem dX3_becomeMade_16 : decode cX3_becomeMade 16 = .ok (.iaload, 1) := by decide +kernel
theorem dX3_becomeMade_17 : decode cX3_becomeMade 17 = .ok (.aload_n 0, 1) := by decide +kernel
theorem dX3_becomeMade_18 : decode cX3_becomeMade 18 = .ok (.getfield 15, 3) := by decide +kernel
theorem dX3_becomeMade_21 : decode cX3_becomeMade 21 = .ok (.iload_n 2, 1) := by decide +kernel
theorem dX3_becomeMade_22 : decode cX3_becomeMade 22 = .ok (.iaload, 1) := by decide +kernel
theorem dX3_becomeMade_23 : decode cX3_becomeMade 23 = .ok (.if_icmp .eq 6, 3) := by decide +kernel
theorem dX3_becomeMade_26 : decode cX3_becomeMade 26 = .ok (.iinc 1 1, 3) := by decide +kernel
theorem dX3_becomeMade_29 : decode cX3_becomeMade 29 = .ok (.aload_n 0, 1) := by decide +kernel
theorem dX3_becomeMade_30 : decode cX3_becomeMade 30 = .ok (.getfield 9, 3) := by decide +kernel
theorem dX3_becomeMade_33 : decode cX3_becomeMade 33 = .ok (.iload_n 2, 1) := by decide +kernel
theorem dX3_becomeMade_34 : decode cX3_becomeMade 34 = .ok (.aload_n 0, 1) := by decide +kernel
theorem dX3_becomeMade_35 : decode cX3_becomeMade 35 = .ok (.getfield 15, 3) := by decide +kernel
theorem dX3_becomeMade_38 : decode cX3_becomeMade 38 = .ok (.iload_n 2, 1) := by decide +kernel
theorem dX3_becomeMade_39 : decode cX3_becomeMade 39 = .ok (.iaload, 1) := by decide +kernel
theorem dX3_becomeMade_40 : decode cX3_becomeMade 40 = .ok (.iastore, 1) := by decide +kernel
theorem dX3_becomeMade_41 : decode cX3_becomeMade 41 = .ok (.iinc 2 1, 3) := by decide +kernel
theorem dX3_becomeMade_44 : decode cX3_becomeMade 44 = .ok (.goto (-40), 3) := by decide +kernel
theorem dX3_becomeMade_47 : decode cX3_becomeMade 47 = .ok (.iload_n 1, 1) := by decide +kernel
theorem dX3_becomeMade_48 : decode cX3_becomeMade 48 = .ok (.ireturn, 1) := by decide +kernel
theorem dX4_init_0 : decode cX4_init 0 = .ok (.aload_n 0, 1) := by decide +kernel
theorem dX4_init_1 : decode cX4_init 1 = .ok (.invokespecial 3, 3) := by decide +kernel
theorem dX4_init_4 : decode cX4_init 4 = .ok (.aload_n 0, 1) := by decide +kernel
theorem dX4_init_5 : decode cX4_init 5 = .ok (.bipush 100, 2) := by decide +kernel
theorem dX4_init_7 : decode cX4_init 7 = .ok (.newarray .int, 2) := by decide +kernel
theorem dX4_init_9 : decode cX4_init 9 = .ok (.putfield 9, 3) := by decide +kernel
theorem dX4_init_12 : decode cX4_init 12 = .ok (.aload_n 0, 1) := by decide +kernel
theorem dX4_init_13 : decode cX4_init 13 = .ok (.iconst 1, 1) := by decide +kernel
theorem dX4_init_14 : decode cX4_init 14 = .ok (.putfield 15, 3) := by decide +kernel
theorem dX4_init_17 : decode cX4_init 17 = .ok (.return_, 1) := by decide +kernel
theorem dX4_begin_0 : decode cX4_begin 0 = .ok (.aload_n 0, 1) := by decide +kernel
theorem dX4_begin_1 : decode cX4_begin 1 = .ok (.iconst 0, 1) := by decide +kernel
theorem dX4_begin_2 : decode cX4_begin 2 = .ok (.putfield 15, 3) := by decide +kernel
theorem dX4_begin_5 : decode cX4_begin 5 = .ok (.aload_n 0, 1) := by decide +kernel
theorem dX4_begin_6 : decode cX4_begin 6 = .ok (.iload_n 1, 1) := by decide +kernel
theorem dX4_begin_7 : decode cX4_begin 7 = .ok (.putfield 19, 3) := by decide +kernel
theorem dX4_begin_10 : decode cX4_begin 10 = .ok (.aload_n 0, 1) := by decide +kernel
theorem dX4_begin_11 : decode cX4_begin 11 = .ok (.iload_n 2, 1) := by decide +kernel
theorem dX4_begin_12 : decode cX4_begin 12 = .ok (.putfield 23, 3) := by decide +kernel
theorem dX4_begin_15 : decode cX4_begin 15 = .ok (.iconst 0, 1) := by decide +kernel
theorem dX4_begin_16 : decode cX4_begin 16 = .ok (.istore_n 3, 1) := by decide +kernel
theorem dX4_begin_17 : decode cX4_begin 17 = .ok (.iload_n 3, 1) := by decide +kernel
theorem dX4_begin_18 : decode cX4_begin 18 = .ok (.bipush 100, 2) := by decide +kernel
theorem dX4_begin_20 : decode cX4_begin 20 = .ok (.if_icmp .ge 16, 3) := by decide +kernel
theorem dX4_begin_23 : decode cX4_begin 23 = .ok (.aload_n 0, 1) := by decide +kernel
theorem dX4_begin_24 : decode cX4_begin 24 = .ok (.getfield 9, 3) := by decide +kernel
theorem dX4_begin_27 : decode cX4_begin 27 = .ok (.iload_n 3, 1) := by decide +kernel
theorem dX4_begin_28 : decode cX4_begin 28 = .ok (.iconst 0, 1) := by decide +kernel
theorem dX4_begin_29 : decode cX4_begin 29 = .ok (.iastore, 1) := by decide +kernel
theorem dX4_begin_30 : decode cX4_begin 30 = .ok (.iinc 3 1, 3) := by decide +kernel
theorem dX4_begin_33 : decode cX4_begin 33 = .ok (.goto (-16), 3) := by decide +kernel
theorem dX4_begin_36 : decode cX4_begin 36 = .ok (.return_, 1) := by decide +kernel
set_option maxRecDepth 20000 in
theorem ggX4_findingAt_X4_isItem : GoodIn wsX4_findingAt wsX4_isItem := goodIn_r _ [7, 8, 9, 10, 11, 12] (by decide +kernel) (by decide +kernel)
set_option maxRecDepth 20000 in
theorem gX4_findingAt_X4_isItem : GoodIn wsX4_findingAt (wsV RX4 26 RX4 yX4_isItem wsX4_isItem) := goodIn_app (goodIn_of _ (by decide +kernel)) ggX4_findingAt_X4_isItem
theorem dX4_findingAt_0 : decode cX4_findingAt 0 = .ok (.aload_n 0, 1) := by decide +kernel
theorem dX4_findingAt_1 : decode cX4_findingAt 1 = .ok (.getfield 15, 3) := by decide +kernel
theorem dX4_findingAt_4 : decode cX4_findingAt 4 = .ok (.ifCond .eq 5, 3) := by decide +kernel
theorem dX4_findingAt_7 : decode cX4_findingAt 7 = .ok (.iconst 1, 1) := by decide +kernel
theorem dX4_findingAt_8 : decode cX4_findingAt 8 = .ok (.ireturn, 1) := by decide +kernel
theorem dX4_findingAt_9 : decode cX4_findingAt 9 = .ok (.aload_n 0, 1) := by decide +kernel
theorem dX4_findingAt_10 : decode cX4_findingAt 10 = .ok (.getfield 19, 3) := by decide +kernel
theorem dX4_findingAt_13 : decode cX4_findingAt 13 = .ok (.iload_n 1, 1) := by decide +kernel
theorem dX4_findingAt_14 : decode cX4_findingAt 14 = .ok (.if_icmp .eq 5, 3) := by decide +kernel
theorem dX4_findingAt_17 : decode cX4_findingAt 17 = .ok (.iconst 3, 1) := by decide +kernel
theorem dX4_findingAt_18 : decode cX4_findingAt 18 = .ok (.ireturn, 1) := by decide +kernel
theorem dX4_findingAt_19 : decode cX4_findingAt 19 = .ok (.aload_n 0, 1) := by decide +kernel
theorem dX4_findingAt_20 : decode cX4_findingAt 20 = .ok (.iload_n 2, 1) := by decide +kernel
theorem dX4_findingAt_21 : decode cX4_findingAt 21 = .ok (.invokevirtual 26, 3) := by decide +kernel
theorem dX4_findingAt_24 : decode cX4_findingAt 24 = .ok (.ifCond .eq 7, 3) := by decide +kernel
theorem dX4_findingAt_27 : decode cX4_findingAt 27 = .ok (.iconst 0, 1) := by decide +kernel
theorem dX4_findingAt_28 : decode cX4_findingAt 28 = .ok (.goto 4, 3) := by decide +kernel
theorem dX4_findingAt_31 : decode cX4_findingAt 31 = .ok (.iconst 2, 1) := by decide +kernel
theorem dX4_findingAt_32 : decode cX4_findingAt 32 = .ok (.ireturn, 1) := by decide +kernel
theorem dX4_hasItems_0 : decode cX4_hasItems 0 = .ok (.iload_n 1, 1) := by decide +kernel
theorem dX4_hasItems_1 : decode cX4_hasItems 1 = .ok (.ifCond .lt 29, 3) := by decide +kernel
theorem dX4_hasItems_4 : decode cX4_hasItems 4 = .ok (.iload_n 2, 1) := by decide +kernel
theorem dX4_hasItems_5 : decode cX4_hasItems 5 = .ok (.ifCond .lt 25, 3) := by decide +kernel
theorem dX4_hasItems_8 : decode cX4_hasItems 8 = .ok (.iload_n 1, 1) := by decide +kernel
theorem dX4_hasItems_9 : decode cX4_hasItems 9 = .ok (.aload_n 0, 1) := by decide +kernel
theorem dX4_hasItems_10 : decode cX4_hasItems 10 = .ok (.getfield 23, 3) := by decide +kernel
theorem dX4_hasItems_13 : decode cX4_hasItems 13 = .ok (.if_icmp .gt 17, 3) := by decide +kernel
theorem dX4_hasItems_16 : decode cX4_hasItems 16 = .ok (.iload_n 2, 1) := by decide +kernel
theorem dX4_hasItems_17 : decode cX4_hasItems 17 = .ok (.aload_n 0, 1) := by decide +kernel
theorem dX4_hasItems_18 : decode cX4_hasItems 18 = .ok (.getfield 23, 3) := by decide +kernel
theorem dX4_hasItems_21 : decode cX4_hasItems 21 = .ok (.iload_n 1, 1) := by decide +kernel
theorem dX4_hasItems_22 : decode cX4_hasItems 22 = .ok (.isub, 1) := by decide +kernel
theorem dX4_hasItems_23 : decode cX4_hasItems 23 = .ok (.if_icmp .gt 7, 3) := by decide +kernel
theorem dX4_hasItems_26 : decode cX4_hasItems 26 = .ok (.iconst 1, 1) := by decide +kernel
theorem dX4_hasItems_27 : decode cX4_hasItems 27 = .ok (.goto 4, 3) := by decide +kernel
theorem dX4_hasItems_30 : decode cX4_hasItems 30 = .ok (.iconst 0, 1) := by decide +kernel
theorem dX4_hasItems_31 : decode cX4_hasItems 31 = .ok (.ireturn, 1) := by decide +kernel
set_option maxRecDepth 20000 in
theorem ggX4_itemAt_X4_isItem : GoodIn wsX4_itemAt wsX4_isItem := goodIn_r _ [6, 7, 8, 9, 10, 11] (by decide +kernel) (by decide +kernel)
set_option maxRecDepth 20000 in
theorem gX4_itemAt_X4_isItem : GoodIn wsX4_itemAt (wsV RX4 26 RX4 yX4_isItem wsX4_isItem) := goodIn_app (goodIn_of _ (by decide +kernel)) ggX4_itemAt_X4_isItem
theorem dX4_itemAt_0 : decode cX4_itemAt 0 = .ok (.aload_n 0, 1) := by decide +kernel
theorem dX4_itemAt_1 : decode cX4_itemAt 1 = .ok (.iload_n 1, 1) := by decide +kernel
theorem dX4_itemAt_2 : decode cX4_itemAt 2 = .ok (.invokevirtual 26, 3) := by decide +kernel
theorem dX4_itemAt_5 : decode cX4_itemAt 5 = .ok (.ifCond .eq 12, 3) := by decide +kernel
theorem dX4_itemAt_8 : decode cX4_itemAt 8 = .ok (.aload_n 0, 1) := by decide +kernel
theorem dX4_itemAt_9 : decode cX4_itemAt 9 = .ok (.getfield 9, 3) := by decide +kernel
theorem dX4_itemAt_12 : decode cX4_itemAt 12 = .ok (.iload_n 1, 1) := by decide +kernel
theorem dX4_itemAt_13 : decode cX4_itemAt 13 = .ok (.iaload, 1) := by decide +kernel
theorem dX4_itemAt_14 : decode cX4_itemAt 14 = .ok (.goto 4, 3) := by decide +kernel
theorem dX4_itemAt_17 : decode cX4_itemAt 17 = .ok (.iconst 0, 1) := by decide +kernel
theorem dX4_itemAt_18 : decode cX4_itemAt 18 = .ok (.ireturn, 1) := by decide +kernel
set_option maxRecDepth 20000 in
theorem ggX4_place_X4_isItem : GoodIn wsX4_place wsX4_isItem := goodIn_r _ [6, 7, 13, 14, 15, 16] (by decide +kernel) (by decide +kernel)
set_option maxRecDepth 20000 in
theorem gX4_place_X4_isItem : GoodIn wsX4_place (wsV RX4 26 RX4 yX4_isItem wsX4_isItem) := goodIn_app (goodIn_of _ (by decide +kernel)) ggX4_place_X4_isItem
set_option maxRecDepth 20000 in
theorem ggX4_place_X4_cut : GoodIn wsX4_place wsX4_cut := goodIn_r _ [11, 12, 13, 14, 15, 16] (by decide +kernel) (by decide +kernel)
set_option maxRecDepth 20000 in
theorem gX4_place_X4_cut : GoodIn wsX4_place (wsV RX4 30 RX4 yX4_cut wsX4_cut) := goodIn_app (goodIn_of _ (by decide +kernel)) ggX4_place_X4_cut
theorem dX4_place_0 : decode cX4_place 0 = .ok (.aload_n 0, 1) := by decide +kernel
theorem dX4_place_1 : decode cX4_place 1 = .ok (.iload_n 1, 1) := by decide +kernel
theorem dX4_place_2 : decode cX4_place 2 = .ok (.invokevirtual 26, 3) := by decide +kernel
theorem dX4_place_5 : decode cX4_place 5 = .ok (.ifCond .eq 14, 3) := by decide +kernel
theorem dX4_place_8 : decode cX4_place 8 = .ok (.aload_n 0, 1) := by decide +kernel
theorem dX4_place_9 : decode cX4_place 9 = .ok (.getfield 9, 3) := by decide +kernel
theorem dX4_place_12 : decode cX4_place 12 = .ok (.iload_n 1, 1) := by decide +kernel
theorem dX4_place_13 : decode cX4_place 13 = .ok (.aload_n 0, 1) := by decide +kernel
theorem dX4_place_14 : decode cX4_place 14 = .ok (.iload_n 2, 1) := by decide +kernel
theorem dX4_place_15 : decode cX4_place 15 = .ok (.invokevirtual 30, 3) := by decide +kernel
theorem dX4_place_18 : decode cX4_place 18 = .ok (.iastore, 1) := by decide +kernel
theorem dX4_place_19 : decode cX4_place 19 = .ok (.return_, 1) := by decide +kernel
theorem dX4_isItem_0 : decode cX4_isItem 0 = .ok (.iload_n 1, 1) := by decide +kernel
theorem dX4_isItem_1 : decode cX4_isItem 1 = .ok (.ifCond .lt 21, 3) := by decide +kernel
theorem dX4_isItem_4 : decode cX4_isItem 4 = .ok (.iload_n 1, 1) := by decide +kernel
theorem dX4_isItem_5 : decode cX4_isItem 5 = .ok (.aload_n 0, 1) := by decide +kernel
theorem dX4_isItem_6 : decode cX4_isItem 6 = .ok (.getfield 23, 3) := by decide +kernel
theorem dX4_isItem_9 : decode cX4_isItem 9 = .ok (.if_icmp .ge 13, 3) := by decide +kernel
theorem dX4_isItem_12 : decode cX4_isItem 12 = .ok (.iload_n 1, 1) := by decide +kernel
theorem dX4_isItem_13 : decode cX4_isItem 13 = .ok (.bipush 100, 2) := by decide +kernel
theorem dX4_isItem_15 : decode cX4_isItem 15 = .ok (.if_icmp .ge 7, 3) := by decide +kernel
theorem dX4_isItem_18 : decode cX4_isItem 18 = .ok (.iconst 1, 1) := by decide +kernel
theorem dX4_isItem_19 : decode cX4_isItem 19 = .ok (.goto 4, 3) := by decide +kernel
theorem dX4_isItem_22 : decode cX4_isItem 22 = .ok (.iconst 0, 1) := by decide +kernel
theorem dX4_isItem_23 : decode cX4_isItem 23 = .ok (.ireturn, 1) := by decide +kernel
theorem dX4_cut_0 : decode cX4_cut 0 = .ok (.aload_n 0, 1) := by decide +kernel
theorem dX4_cut_1 : decode cX4_cut 1 = .ok (.getfield 19, 3) := by decide +kernel
theorem dX4_cut_4 : decode cX4_cut 4 = .ok (.ifCond .ne 6, 3) := by decide +kernel
theorem dX4_cut_7 : decode cX4_cut 7 = .ok (.iload_n 1, 1) := by decide +kernel
theorem dX4_cut_8 : decode cX4_cut 8 = .ok (.i2b, 1) := by decide +kernel
theorem dX4_cut_9 : decode cX4_cut 9 = .ok (.ireturn, 1) := by decide +kernel
theorem dX4_cut_10 : decode cX4_cut 10 = .ok (.aload_n 0, 1) := by decide +kernel
theorem dX4_cut_11 : decode cX4_cut 11 = .ok (.getfield 19, 3) := by decide +kernel
theorem dX4_cut_14 : decode cX4_cut 14 = .ok (.iconst 1, 1) := by decide +kernel
theorem dX4_cut_15 : decode cX4_cut 15 = .ok (.if_icmp .ne 8, 3) := by decide +kernel
theorem dX4_cut_18 : decode cX4_cut 18 = .ok (.iload_n 1, 1) := by decide +kernel
theorem dX4_cut_19 : decode cX4_cut 19 = .ok (.i2s, 1) := by decide +kernel
theorem dX4_cut_20 : decode cX4_cut 20 = .ok (.goto 4, 3) := by decide +kernel
theorem dX4_cut_23 : decode cX4_cut 23 = .ok (.iload_n 1, 1) := by decide +kernel
theorem dX4_cut_24 : decode cX4_cut 24 = .ok (.ireturn, 1) := by decide +kernel
theorem dX5_init_0 : decode cX5_init 0 = .ok (.aload_n 0, 1) := by decide +kernel
theorem dX5_init_1 : decode cX5_init 1 = .ok (.invokespecial 3, 3) := by decide +kernel
theorem dX5_init_4 : decode cX5_init 4 = .ok (.aload_n 0, 1) := by decide +kernel
theorem dX5_init_5 : decode cX5_init 5 = .ok (.sipush 240, 3) := by decide +kernel
theorem dX5_init_8 : decode cX5_init 8 = .ok (.newarray .int, 2) := by decide +kernel
theorem dX5_init_10 : decode cX5_init 10 = .ok (.putfield 9, 3) := by decide +kernel
theorem dX5_init_13 : decode cX5_init 13 = .ok (.aload_n 0, 1) := by decide +kernel
theorem dX5_init_14 : decode cX5_init 14 = .ok (.sipush 240, 3) := by decide +kernel
theorem dX5_init_17 : decode cX5_init 17 = .ok (.newarray .int, 2) := by decide +kernel
theorem dX5_init_19 : decode cX5_init 19 = .ok (.putfield 15, 3) := by decide +kernel
theorem dX5_init_22 : decode cX5_init 22 = .ok (.aload_n 0, 1) := by decide +kernel
theorem dX5_init_23 : decode cX5_init 23 = .ok (.sipush 241, 3) := by decide +kernel
theorem dX5_init_26 : decode cX5_init 26 = .ok (.newarray .int, 2) := by decide +kernel
theorem dX5_init_28 : decode cX5_init 28 = .ok (.putfield 18, 3) := by decide +kernel
theorem dX5_init_31 : decode cX5_init 31 = .ok (.return_, 1) := by decide +kernel
theorem dX5_isString_0 : decode cX5_isString 0 = .ok (.iload_n 1, 1) := by decide +kernel
theorem dX5_isString_1 : decode cX5_isString 1 = .ok (.ifCond .lt 22, 3) := by decide +kernel
theorem dX5_isString_4 : decode cX5_isString 4 = .ok (.iload_n 1, 1) := by decide +kernel
theorem dX5_isString_5 : decode cX5_isString 5 = .ok (.aload_n 0, 1) := by decide +kernel
theorem dX5_isString_6 : decode cX5_isString 6 = .ok (.getfield 21, 3) := by decide +kernel
theorem dX5_isString_9 : decode cX5_isString 9 = .ok (.if_icmp .ge 14, 3) := by decide +kernel
theorem dX5_isString_12 : decode cX5_isString 12 = .ok (.iload_n 1, 1) := by decide +kernel
theorem dX5_isString_13 : decode cX5_isString 13 = .ok (.sipush 240, 3) := by decide +kernel
theorem dX5_isString_16 : decode cX5_isString 16 = .ok (.if_icmp .ge 7, 3) := by decide +kernel
theorem dX5_isString_19 : decode cX5_isString 19 = .ok (.iconst 1, 1) := by decide +kernel
theorem dX5_isString_20 : decode cX5_isString 20 = .ok (.goto 4, 3) := by decide +kernel
theorem dX5_isString_23 : decode cX5_isString 23 = .ok (.iconst 0, 1) := by decide +kernel
theorem dX5_isString_24 : decode cX5_isString 24 = .ok (.ireturn, 1) := by decide +kernel
set_option maxRecDepth 20000 in
theorem ggX5_lengthOf_X5_isString : GoodIn wsX5_lengthOf wsX5_isString := goodIn_r _ [6, 7, 8, 9, 10, 11, 12] (by decide +kernel) (by decide +kernel)
set_option maxRecDepth 20000 in
theorem gX5_lengthOf_X5_isString : GoodIn wsX5_lengthOf (wsV RX5 25 RX5 yX5_isString wsX5_isString) := goodIn_app (goodIn_of _ (by decide +kernel)) ggX5_lengthOf_X5_isString
theorem dX5_lengthOf_0 : decode cX5_lengthOf 0 = .ok (.aload_n 0, 1) := by decide +kernel
theorem dX5_lengthOf_1 : decode cX5_lengthOf 1 = .ok (.iload_n 1, 1) := by decide +kernel
theorem dX5_lengthOf_2 : decode cX5_lengthOf 2 = .ok (.invokevirtual 25, 3) := by decide +kernel
theorem dX5_lengthOf_5 : decode cX5_lengthOf 5 = .ok (.ifCond .eq 12, 3) := by decide +kernel
theorem dX5_lengthOf_8 : decode cX5_lengthOf 8 = .ok (.aload_n 0, 1) := by decide +kernel
theorem dX5_lengthOf_9 : decode cX5_lengthOf 9 = .ok (.getfield 9, 3) := by decide +kernel
theorem dX5_lengthOf_12 : decode cX5_lengthOf 12 = .ok (.iload_n 1, 1) := by decide +kernel
theorem dX5_lengthOf_13 : decode cX5_lengthOf 13 = .ok (.iaload, 1) := by decide +kernel
theorem dX5_lengthOf_14 : decode cX5_lengthOf 14 = .ok (.goto 4, 3) := by decide +kernel
theorem dX5_lengthOf_17 : decode cX5_lengthOf 17 = .ok (.iconst 0, 1) := by decide +kernel
theorem dX5_lengthOf_18 : decode cX5_lengthOf 18 = .ok (.ireturn, 1) := by decide +kernel
set_option maxRecDepth 20000 in
theorem ggX5_riggingOf_X5_isString : GoodIn wsX5_riggingOf wsX5_isString := goodIn_r _ [6, 7, 8, 9, 10, 11, 12] (by decide +kernel) (by decide +kernel)
set_option maxRecDepth 20000 in
theorem gX5_riggingOf_X5_isString : GoodIn wsX5_riggingOf (wsV RX5 25 RX5 yX5_isString wsX5_isString) := goodIn_app (goodIn_of _ (by decide +kernel)) ggX5_riggingOf_X5_isString
theorem dX5_riggingOf_0 : decode cX5_riggingOf 0 = .ok (.aload_n 0, 1) := by decide +kernel
theorem dX5_riggingOf_1 : decode cX5_riggingOf 1 = .ok (.iload_n 1, 1) := by decide +kernel
theorem dX5_riggingOf_2 : decode cX5_riggingOf 2 = .ok (.invokevirtual 25, 3) := by decide +kernel
theorem dX5_riggingOf_5 : decode cX5_riggingOf 5 = .ok (.ifCond .eq 12, 3) := by decide +kernel
theorem dX5_riggingOf_8 : decode cX5_riggingOf 8 = .ok (.aload_n 0, 1) := by decide +kernel
theorem dX5_riggingOf_9 : decode cX5_riggingOf 9 = .ok (.getfield 15, 3) := by decide +kernel
theorem dX5_riggingOf_12 : decode cX5_riggingOf 12 = .ok (.iload_n 1, 1) := by decide +kernel
theorem dX5_riggingOf_13 : decode cX5_riggingOf 13 = .ok (.iaload, 1) := by decide +kernel
theorem dX5_riggingOf_14 : decode cX5_riggingOf 14 = .ok (.goto 4, 3) := by decide +kernel
theorem dX5_riggingOf_17 : decode cX5_riggingOf 17 = .ok (.iconst 0, 1) := by decide +kernel
theorem dX5_riggingOf_18 : decode cX5_riggingOf 18 = .ok (.ireturn, 1) := by decide +kernel
theorem dX5_roomLeft_0 : decode cX5_roomLeft 0 = .ok (.iload_n 1, 1) := by decide +kernel
theorem dX5_roomLeft_1 : decode cX5_roomLeft 1 = .ok (.ifCond .lt 10, 3) := by decide +kernel
theorem dX5_roomLeft_4 : decode cX5_roomLeft 4 = .ok (.iload_n 1, 1) := by decide +kernel
theorem dX5_roomLeft_5 : decode cX5_roomLeft 5 = .ok (.sipush 240, 3) := by decide +kernel
theorem dX5_roomLeft_8 : decode cX5_roomLeft 8 = .ok (.if_icmp .le 5, 3) := by decide +kernel
theorem dX5_roomLeft_11 : decode cX5_roomLeft 11 = .ok (.iconst 0, 1) := by decide +kernel
theorem dX5_roomLeft_12 : decode cX5_roomLeft 12 = .ok (.ireturn, 1) := by decide +kernel
theorem dX5_roomLeft_13 : decode cX5_roomLeft 13 = .ok (.iload_n 2, 1) := by decide +kernel
theorem dX5_roomLeft_14 : decode cX5_roomLeft 14 = .ok (.iconst 2, 1) := by decide +kernel
theorem dX5_roomLeft_15 : decode cX5_roomLeft 15 = .ok (.aload_n 0, 1) := by decide +kernel
theorem dX5_roomLeft_16 : decode cX5_roomLeft 16 = .ok (.getfield 18, 3) := by decide +kernel
theorem dX5_roomLeft_19 : decode cX5_roomLeft 19 = .ok (.iload_n 1, 1) := by decide +kernel
theorem dX5_roomLeft_20 : decode cX5_roomLeft 20 = .ok (.iaload, 1) := by decide +kernel
theorem dX5_roomLeft_21 : decode cX5_roomLeft 21 = .ok (.imul, 1) := by decide +kernel
theorem dX5_roomLeft_22 : decode cX5_roomLeft 22 = .ok (.isub, 1) := by decide +kernel
theorem dX5_roomLeft_23 : decode cX5_roomLeft 23 = .ok (.ireturn, 1) := by decide +kernel
set_option maxRecDepth 20000 in
theorem ggX5_readFrom_X5_clear : GoodIn wsX5_readFrom wsX5_clear := goodIn_r _ [6, 7, 8, 60, 61, 62, 63, 64] (by decide +kernel) (by decide +kernel)
set_option maxRecDepth 20000 in
theorem gX5_readFrom_X5_clear : GoodIn wsX5_readFrom (wsV RX5 29 RX5 yX5_clear wsX5_clear) := goodIn_app (goodIn_of _ (by decide +kernel)) ggX5_readFrom_X5_clear
set_option maxRecDepth 20000 in
theorem ggX5_readFrom_X3_ballAt : GoodIn wsX5_readFrom wsX3_ballAt := goodIn_r _ [13, 14, 15, 16, 17, 65, 66] (by decide +kernel) (by decide +kernel)
set_option maxRecDepth 20000 in
theorem gX5_readFrom_X3_ballAt : GoodIn wsX5_readFrom (wsV RX5 32 RX3 yX3_ballAt wsX3_ballAt) := goodIn_app (goodIn_of _ (by decide +kernel)) ggX5_readFrom_X3_ballAt
set_option maxRecDepth 20000 in
theorem ggX5_readFrom_X5_takeBall : GoodIn wsX5_readFrom wsX5_takeBall := goodIn_r _ [21, 22, 23, 24, 25, 26, 5, 27, 7, 28, 29, 30, 31, 32, 33, 34, 35, 36, 37, 38, 39, 40, 41, 42, 43, 44, 45, 46, 47, 8, 48, 49, 50, 51, 52, 53, 54, 55, 56, 57, 58, 59, 60, 61, 62, 63, 64] (by decide +kernel) (by decide +kernel)
set_option maxRecDepth 20000 in
theorem gX5_readFrom_X5_takeBall : GoodIn wsX5_readFrom (wsV RX5 38 RX5 yX5_takeBall wsX5_takeBall) := goodIn_app (goodIn_of _ (by decide +kernel)) ggX5_readFrom_X5_takeBall
theorem dX5_readFrom_0 : decode cX5_readFrom 0 = .ok (.aload_n 0, 1) := by decide +kernel
theorem dX5_readFrom_1 : decode cX5_readFrom 1 = .ok (.invokevirtual 29, 3) := by decide +kernel
theorem dX5_readFrom_4 : decode cX5_readFrom 4 = .ok (.iconst 0, 1) := by decide +kernel
theorem dX5_readFrom_5 : decode cX5_readFrom 5 = .ok (.istore_n 3, 1) := by decide +kernel
theorem dX5_readFrom_6 : decode cX5_readFrom 6 = .ok (.iload_n 3, 1) := by decide +kernel
theorem dX5_readFrom_7 : decode cX5_readFrom 7 = .ok (.iload_n 2, 1) := by decide +kernel
theorem dX5_readFrom_8 : decode cX5_readFrom 8 = .ok (.if_icmp .ge 22, 3) := by decide +kernel
theorem dX5_readFrom_11 : decode cX5_readFrom 11 = .ok (.aload_n 1, 1) := by decide +kernel
theorem dX5_readFrom_12 : decode cX5_readFrom 12 = .ok (.iload_n 3, 1) := by decide +kernel
theorem dX5_readFrom_13 : decode cX5_readFrom 13 = .ok (.invokevirtual 32, 3) := by decide +kernel
theorem dX5_readFrom_16 : decode cX5_readFrom 16 = .ok (.ifCond .eq 8, 3) := by decide +kernel
theorem dX5_readFrom_19 : decode cX5_readFrom 19 = .ok (.aload_n 0, 1) := by decide +kernel
theorem dX5_readFrom_20 : decode cX5_readFrom 20 = .ok (.iload_n 3, 1) := by decide +kernel
theorem dX5_readFrom_21 : decode cX5_readFrom 21 = .ok (.invokevirtual 38, 3) := by decide +kernel
theorem dX5_readFrom_24 : decode cX5_readFrom 24 = .ok (.iinc 3 1, 3) := by decide +kernel
theorem dX5_readFrom_27 : decode cX5_readFrom 27 = .ok (.goto (-21), 3) := by decide +kernel
theorem dX5_readFrom_30 : decode cX5_readFrom 30 = .ok (.aload_n 0, 1) := by decide +kernel
theorem dX5_readFrom_31 : decode cX5_readFrom 31 = .ok (.iload_n 2, 1) := by decide +kernel
theorem dX5_readFrom_32 : decode cX5_readFrom 32 = .ok (.putfield 42, 3) := by decide +kernel
theorem dX5_readFrom_35 : decode cX5_readFrom 35 = .ok (.return_, 1) := by decide +kernel
set_option maxRecDepth 20000 in
theorem ggX5_makeInto_X5_giveBall : GoodIn wsX5_makeInto wsX5_giveBall := goodIn_r _ [6, 7, 8, 9, 10, 11, 5, 12, 1, 13, 14, 15, 16, 17, 18, 19, 20, 21, 22, 23, 24, 25, 26, 27, 28, 29, 30, 31, 32, 33, 34, 35, 36, 37, 38, 39, 40, 41, 42, 43, 44, 45, 46, 47, 48, 49, 59, 60, 61, 62, 63] (by decide +kernel) (by decide +kernel)
set_option maxRecDepth 20000 in
theorem gX5_makeInto_X5_giveBall : GoodIn wsX5_makeInto (wsV RX5 45 RX5 yX5_giveBall wsX5_giveBall) := goodIn_app (goodIn_of _ (by decide +kernel)) ggX5_makeInto_X5_giveBall
set_option maxRecDepth 20000 in
theorem ggX5_makeInto_X3_makeBox : GoodIn wsX5_makeInto wsX3_makeBox := goodIn_r _ [54, 55, 56, 57, 58, 64, 65] (by decide +kernel) (by decide +kernel)
set_option maxRecDepth 20000 in
theorem gX5_makeInto_X3_makeBox : GoodIn wsX5_makeInto (wsV RX5 48 RX3 yX3_makeBox wsX3_makeBox) := goodIn_app (goodIn_of _ (by decide +kernel)) ggX5_makeInto_X3_makeBox
theorem dX5_makeInto_0 : decode cX5_makeInto 0 = .ok (.sipush 239, 3) := by decide +kernel
theorem dX5_makeInto_3 : decode cX5_makeInto 3 = .ok (.istore_n 2, 1) := by decide +kernel
theorem dX5_makeInto_4 : decode cX5_makeInto 4 = .ok (.iload_n 2, 1) := by decide +kernel
theorem dX5_makeInto_5 : decode cX5_makeInto 5 = .ok (.ifCond .lt 19, 3) := by decide +kernel
theorem dX5_makeInto_8 : decode cX5_makeInto 8 = .ok (.aload_n 1, 1) := by decide +kernel
theorem dX5_makeInto_9 : decode cX5_makeInto 9 = .ok (.iload_n 2, 1) := by decide +kernel
theorem dX5_makeInto_10 : decode cX5_makeInto 10 = .ok (.aload_n 0, 1) := by decide +kernel
theorem dX5_makeInto_11 : decode cX5_makeInto 11 = .ok (.iload_n 2, 1) := by decide +kernel
theorem dX5_makeInto_12 : decode cX5_makeInto 12 = .ok (.invokevirtual 45, 3) := by decide +kernel
theorem dX5_makeInto_15 : decode cX5_makeInto 15 = .ok (.invokevirtual 48, 3) := by decide +kernel
theorem dX5_makeInto_18 : decode cX5_makeInto 18 = .ok (.iinc 2 (-1), 3) := by decide +kernel
theorem dX5_makeInto_21 : decode cX5_makeInto 21 = .ok (.goto (-17), 3) := by decide +kernel
theorem dX5_makeInto_24 : decode cX5_makeInto 24 = .ok (.aload_n 0, 1) := by decide +kernel
theorem dX5_makeInto_25 : decode cX5_makeInto 25 = .ok (.getfield 21, 3) := by decide +kernel
theorem dX5_makeInto_28 : decode cX5_makeInto 28 = .ok (.ifCond .ne 7, 3) := by decide +kernel
theorem dX5_makeInto_31 : decode cX5_makeInto 31 = .ok (.iconst 1, 1) := by decide +kernel
theorem dX5_makeInto_32 : decode cX5_makeInto 32 = .ok (.goto 4, 3) := by decide +kernel
theorem dX5_makeInto_35 : decode cX5_makeInto 35 = .ok (.iconst 0, 1) := by decide +kernel
theorem dX5_makeInto_36 : decode cX5_makeInto 36 = .ok (.ireturn, 1) := by decide +kernel
theorem dX5_addToRiggings_0 : decode cX5_addToRiggings 0 = .ok (.iconst 0, 1) := by decide +kernel
theorem dX5_addToRiggings_1 : decode cX5_addToRiggings 1 = .ok (.istore_n 3, 1) := by decide +kernel
theorem dX5_addToRiggings_2 : decode cX5_addToRiggings 2 = .ok (.iload_n 3, 1) := by decide +kernel
theorem dX5_addToRiggings_3 : decode cX5_addToRiggings 3 = .ok (.aload_n 0, 1) := by decide +kernel
theorem dX5_addToRiggings_4 : decode cX5_addToRiggings 4 = .ok (.getfield 21, 3) := by decide +kernel
theorem dX5_addToRiggings_7 : decode cX5_addToRiggings 7 = .ok (.if_icmp .ge 37, 3) := by decide +kernel
theorem dX5_addToRiggings_10 : decode cX5_addToRiggings 10 = .ok (.iload_n 3, 1) := by decide +kernel
theorem dX5_addToRiggings_11 : decode cX5_addToRiggings 11 = .ok (.sipush 240, 3) := by decide +kernel
theorem dX5_addToRiggings_14 : decode cX5_addToRiggings 14 = .ok (.if_icmp .ge 30, 3) := by decide +kernel
theorem dX5_addToRiggings_17 : decode cX5_addToRiggings 17 = .ok (.aload_n 0, 1) := by decide +kernel
theorem dX5_addToRiggings_18 : decode cX5_addToRiggings 18 = .ok (.getfield 15, 3) := by decide +kernel
theorem dX5_addToRiggings_21 : decode cX5_addToRiggings 21 = .ok (.iload_n 3, 1) := by decide +kernel
theorem dX5_addToRiggings_22 : decode cX5_addToRiggings 22 = .ok (.dup2, 1) := by decide +kernel
theorem dX5_addToRiggings_23 : decode cX5_addToRiggings 23 = .ok (.iaload, 1) := by decide +kernel
theorem dX5_addToRiggings_24 : decode cX5_addToRiggings 24 = .ok (.iload_n 2, 1) := by decide +kernel
theorem dX5_addToRiggings_25 : decode cX5_addToRiggings 25 = .ok (.iload_n 1, 1) := by decide +kernel
theorem dX5_addToRiggings_26 : decode cX5_addToRiggings 26 = .ok (.aload_n 0, 1) := by decide +kernel
theorem dX5_addToRiggings_27 : decode cX5_addToRiggings 27 = .ok (.getfield 9, 3) := by decide +kernel
theorem dX5_addToRiggings_30 : decode cX5_addToRiggings 30 = .ok (.iload_n 3, 1) := by decide +kernel
theorem dX5_addToRiggings_31 : decode cX5_addToRiggings 31 = .ok (.iaload, 1) := by decide +kernel
theorem dX5_addToRiggings_32 : decode cX5_addToRiggings 32 = .ok (.invokestatic 52, 3) := by decide +kernel
theorem dX5_addToRiggings_35 : decode cX5_addToRiggings 35 = .ok (.imul, 1) := by decide +kernel
theorem dX5_addToRiggings_36 : decode cX5_addToRiggings 36 = .ok (.iadd, 1) := by decide +kernel
theorem dX5_addToRiggings_37 : decode cX5_addToRiggings 37 = .ok (.iastore, 1) := by decide +kernel
theorem dX5_addToRiggings_38 : decode cX5_addToRiggings 38 = .ok (.iinc 3 1, 3) := by decide +kernel
theorem dX5_addToRiggings_41 : decode cX5_addToRiggings 41 = .ok (.goto (-39), 3) := by decide +kernel
theorem dX5_addToRiggings_44 : decode cX5_addToRiggings 44 = .ok (.return_, 1) := by decide +kernel
set_option maxRecDepth 20000 in
theorem ggX5_haveRoomBehind_X5_roomLeft : GoodIn wsX5_haveRoomBehind wsX5_roomLeft := goodIn_r _ [8, 9, 10, 11, 12, 13, 14] (by decide +kernel) (by decide +kernel)
set_option maxRecDepth 20000 in
theorem gX5_haveRoomBehind_X5_roomLeft : GoodIn wsX5_haveRoomBehind (wsV RX5 58 RX5 yX5_roomLeft wsX5_roomLeft) := goodIn_app (goodIn_of _ (by decide +kernel)) ggX5_haveRoomBehind_X5_roomLeft
theorem dX5_haveRoomBehind_0 : decode cX5_haveRoomBehind 0 = .ok (.iconst 0, 1) := by decide +kernel
theorem dX5_haveRoomBehind_1 : decode cX5_haveRoomBehind 1 = .ok (.istore_n 2, 1) := by decide +kernel
theorem dX5_haveRoomBehind_2 : decode cX5_haveRoomBehind 2 = .ok (.iload_n 2, 1) := by decide +kernel
theorem dX5_haveRoomBehind_3 : decode cX5_haveRoomBehind 3 = .ok (.aload_n 0, 1) := by decide +kernel
theorem dX5_haveRoomBehind_4 : decode cX5_haveRoomBehind 4 = .ok (.getfield 21, 3) := by decide +kernel
theorem dX5_haveRoomBehind_7 : decode cX5_haveRoomBehind 7 = .ok (.if_icmp .ge 38, 3) := by decide +kernel
theorem dX5_haveRoomBehind_10 : decode cX5_haveRoomBehind 10 = .ok (.iload_n 2, 1) := by decide +kernel
theorem dX5_haveRoomBehind_11 : decode cX5_haveRoomBehind 11 = .ok (.sipush 240, 3) := by decide +kernel
theorem dX5_haveRoomBehind_14 : decode cX5_haveRoomBehind 14 = .ok (.if_icmp .ge 31, 3) := by decide +kernel
theorem dX5_haveRoomBehind_17 : decode cX5_haveRoomBehind 17 = .ok (.aload_n 0, 1) := by decide +kernel
theorem dX5_haveRoomBehind_18 : decode cX5_haveRoomBehind 18 = .ok (.getfield 15, 3) := by decide +kernel
theorem dX5_haveRoomBehind_21 : decode cX5_haveRoomBehind 21 = .ok (.iload_n 2, 1) := by decide +kernel
theorem dX5_haveRoomBehind_22 : decode cX5_haveRoomBehind 22 = .ok (.iaload, 1) := by decide +kernel
theorem dX5_haveRoomBehind_23 : decode cX5_haveRoomBehind 23 = .ok (.aload_n 0, 1) := by decide +kernel
theorem dX5_haveRoomBehind_24 : decode cX5_haveRoomBehind 24 = .ok (.aload_n 0, 1) := by decide +kernel
theorem dX5_haveRoomBehind_25 : decode cX5_haveRoomBehind 25 = .ok (.getfield 9, 3) := by decide +kernel
theorem dX5_haveRoomBehind_28 : decode cX5_haveRoomBehind 28 = .ok (.iload_n 2, 1) := by decide +kernel
theorem dX5_haveRoomBehind_29 : decode cX5_haveRoomBehind 29 = .ok (.iaload, 1) := by decide +kernel
theorem dX5_haveRoomBehind_30 : decode cX5_haveRoomBehind 30 = .ok (.iload_n 1, 1) := by decide +kernel
theorem dX5_haveRoomBehind_31 : decode cX5_haveRoomBehind 31 = .ok (.invokevirtual 58, 3) := by decide +kernel
theorem dX5_haveRoomBehind_34 : decode cX5_haveRoomBehind 34 = .ok (.if_icmp .le 5, 3) := by decide +kernel
theorem dX5_haveRoomBehind_37 : decode cX5_haveRoomBehind 37 = .ok (.iconst 0, 1) := by decide +kernel
theorem dX5_haveRoomBehind_38 : decode cX5_haveRoomBehind 38 = .ok (.ireturn, 1) := by decide +kernel
theorem dX5_haveRoomBehind_39 : decode cX5_haveRoomBehind 39 = .ok (.iinc 2 1, 3) := by decide +kernel
theorem dX5_haveRoomBehind_42 : decode cX5_haveRoomBehind 42 = .ok (.goto (-40), 3) := by decide +kernel
theorem dX5_haveRoomBehind_45 : decode cX5_haveRoomBehind 45 = .ok (.iconst 1, 1) := by decide +kernel
theorem dX5_haveRoomBehind_46 : decode cX5_haveRoomBehind 46 = .ok (.ireturn, 1) := by decide +kernel
set_option maxRecDepth 20000 in
theorem ggX5_sort_X5_isBehind : GoodIn wsX5_sort wsX5_isBehind := goodIn_r _ [6, 7, 8, 9, 5, 10, 11, 12, 13, 14, 15, 1, 16, 17, 18, 19, 20, 25, 26, 27, 28, 29] (by decide +kernel) (by decide +kernel)
set_option maxRecDepth 20000 in
theorem gX5_sort_X5_isBehind : GoodIn wsX5_sort (wsV RX5 61 RX5 yX5_isBehind wsX5_isBehind) := goodIn_app (goodIn_of _ (by decide +kernel)) ggX5_sort_X5_isBehind
set_option maxRecDepth 20000 in
theorem ggX5_sort_X5_swap : GoodIn wsX5_sort wsX5_swap := goodIn_r _ [24, 11, 20, 12, 13, 14, 5, 15, 1, 25, 26, 27, 28, 29] (by decide +kernel) (by decide +kernel)
set_option maxRecDepth 20000 in
theorem gX5_sort_X5_swap : GoodIn wsX5_sort (wsV RX5 65 RX5 yX5_swap wsX5_swap) := goodIn_app (goodIn_of _ (by decide +kernel)) ggX5_sort_X5_swap
theorem dX5_sort_0 : decode cX5_sort 0 = .ok (.iconst 1, 1) := by decide +kernel
theorem dX5_sort_1 : decode cX5_sort 1 = .ok (.istore_n 1, 1) := by decide +kernel
theorem dX5_sort_2 : decode cX5_sort 2 = .ok (.iload_n 1, 1) := by decide +kernel
theorem dX5_sort_3 : decode cX5_sort 3 = .ok (.aload_n 0, 1) := by decide +kernel
theorem dX5_sort_4 : decode cX5_sort 4 = .ok (.getfield 21, 3) := by decide +kernel
theorem dX5_sort_7 : decode cX5_sort 7 = .ok (.if_icmp .ge 40, 3) := by decide +kernel
theorem dX5_sort_10 : decode cX5_sort 10 = .ok (.iload_n 1, 1) := by decide +kernel
theorem dX5_sort_11 : decode cX5_sort 11 = .ok (.istore_n 2, 1) := by decide +kernel
theorem dX5_sort_12 : decode cX5_sort 12 = .ok (.iload_n 2, 1) := by decide +kernel
theorem dX5_sort_13 : decode cX5_sort 13 = .ok (.ifCond .le 28, 3) := by decide +kernel
theorem dX5_sort_16 : decode cX5_sort 16 = .ok (.aload_n 0, 1) := by decide +kernel
theorem dX5_sort_17 : decode cX5_sort 17 = .ok (.iload_n 2, 1) := by decide +kernel
theorem dX5_sort_18 : decode cX5_sort 18 = .ok (.iconst 1, 1) := by decide +kernel
theorem dX5_sort_19 : decode cX5_sort 19 = .ok (.isub, 1) := by decide +kernel
theorem dX5_sort_20 : decode cX5_sort 20 = .ok (.iload_n 2, 1) := by decide +kernel
theorem dX5_sort_21 : decode cX5_sort 21 = .ok (.invokevirtual 61, 3) := by decide +kernel
theorem dX5_sort_24 : decode cX5_sort 24 = .ok (.ifCond .eq 17, 3) := by decide +kernel
theorem dX5_sort_27 : decode cX5_sort 27 = .ok (.aload_n 0, 1) := by decide +kernel
theorem dX5_sort_28 : decode cX5_sort 28 = .ok (.iload_n 2, 1) := by decide +kernel
theorem dX5_sort_29 : decode cX5_sort 29 = .ok (.iconst 1, 1) := by decide +kernel
theorem dX5_sort_30 : decode cX5_sort 30 = .ok (.isub, 1) := by decide +kernel
theorem dX5_sort_31 : decode cX5_sort 31 = .ok (.iload_n 2, 1) := by decide +kernel
theorem dX5_sort_32 : decode cX5_sort 32 = .ok (.invokevirtual 65, 3) := by decide +kernel
theorem dX5_sort_35 : decode cX5_sort 35 = .ok (.iinc 2 (-1), 3) := by decide +kernel
theorem dX5_sort_38 : decode cX5_sort 38 = .ok (.goto (-26), 3) := by decide +kernel
theorem dX5_sort_41 : decode cX5_sort 41 = .ok (.iinc 1 1, 3) := by decide +kernel
theorem dX5_sort_44 : decode cX5_sort 44 = .ok (.goto (-42), 3) := by decide +kernel
theorem dX5_sort_47 : decode cX5_sort 47 = .ok (.return_, 1) := by decide +kernel
theorem dX5_clear_0 : decode cX5_clear 0 = .ok (.aload_n 0, 1) := by decide +kernel
theorem dX5_clear_1 : decode cX5_clear 1 = .ok (.iconst 0, 1) := by decide +kernel
theorem dX5_clear_2 : decode cX5_clear 2 = .ok (.putfield 21, 3) := by decide +kernel
theorem dX5_clear_5 : decode cX5_clear 5 = .ok (.iconst 0, 1) := by decide +kernel
theorem dX5_clear_6 : decode cX5_clear 6 = .ok (.istore_n 1, 1) := by decide +kernel
theorem dX5_clear_7 : decode cX5_clear 7 = .ok (.iload_n 1, 1) := by decide +kernel
theorem dX5_clear_8 : decode cX5_clear 8 = .ok (.sipush 240, 3) := by decide +kernel
theorem dX5_clear_11 : decode cX5_clear 11 = .ok (.if_icmp .gt 16, 3) := by decide +kernel
theorem dX5_clear_14 : decode cX5_clear 14 = .ok (.aload_n 0, 1) := by decide +kernel
theorem dX5_clear_15 : decode cX5_clear 15 = .ok (.getfield 18, 3) := by decide +kernel
theorem dX5_clear_18 : decode cX5_clear 18 = .ok (.iload_n 1, 1) := by decide +kernel
theorem dX5_clear_19 : decode cX5_clear 19 = .ok (.iconst 0, 1) := by decide +kernel
theorem dX5_clear_20 : decode cX5_clear 20 = .ok (.iastore, 1) := by decide +kernel
theorem dX5_clear_21 : decode cX5_clear 21 = .ok (.iinc 1 1, 3) := by decide +kernel
theorem dX5_clear_24 : decode cX5_clear 24 = .ok (.goto (-17), 3) := by decide +kernel
theorem dX5_clear_27 : decode cX5_clear 27 = .ok (.return_, 1) := by decide +kernel
set_option maxRecDepth 20000 in
theorem ggX5_takeBall_X5_longestTight : GoodIn wsX5_takeBall wsX5_longestTight := goodIn_r _ [7, 8, 1, 9, 10, 11, 6, 12, 13, 14, 15, 16, 2, 17, 18, 19, 20, 21, 22, 23, 24, 25, 26, 27, 28, 29, 42, 43, 44, 45, 46] (by decide +kernel) (by decide +kernel)
set_option maxRecDepth 20000 in
theorem gX5_takeBall_X5_longestTight : GoodIn wsX5_takeBall (wsV RX5 68 RX5 yX5_longestTight wsX5_longestTight) := goodIn_app (goodIn_of _ (by decide +kernel)) ggX5_takeBall_X5_longestTight
set_option maxRecDepth 20000 in
theorem ggX5_takeBall_X5_addString : GoodIn wsX5_takeBall wsX5_addString := goodIn_r _ [33, 8, 1, 42, 43, 44, 45, 46] (by decide +kernel) (by decide +kernel)
set_option maxRecDepth 20000 in
theorem gX5_takeBall_X5_addString : GoodIn wsX5_takeBall (wsV RX5 71 RX5 yX5_addString wsX5_addString) := goodIn_app (goodIn_of _ (by decide +kernel)) ggX5_takeBall_X5_addString
set_option maxRecDepth 20000 in
theorem ggX5_takeBall_X5_isString : GoodIn wsX5_takeBall wsX5_isString := goodIn_r _ [20, 8, 42, 43, 44, 45, 46] (by decide +kernel) (by decide +kernel)
set_option maxRecDepth 20000 in
theorem gX5_takeBall_X5_isString : GoodIn wsX5_takeBall (wsV RX5 25 RX5 yX5_isString wsX5_isString) := goodIn_app (goodIn_of _ (by decide +kernel)) ggX5_takeBall_X5_isString
set_option maxRecDepth 20000 in
theorem ggX5_takeBall_X5_addToSums : GoodIn wsX5_takeBall wsX5_addToSums := goodIn_r _ [37, 38, 39, 40, 41, 29, 42, 43, 44, 45, 46] (by decide +kernel) (by decide +kernel)
set_option maxRecDepth 20000 in
theorem gX5_takeBall_X5_addToSums : GoodIn wsX5_takeBall (wsV RX5 75 RX5 yX5_addToSums wsX5_addToSums) := goodIn_app (goodIn_of _ (by decide +kernel)) ggX5_takeBall_X5_addToSums
set_option maxRecDepth 20000 in
theorem ggX5_takeBall_X5_roomLeft : GoodIn wsX5_takeBall wsX5_roomLeft := goodIn_r _ [28, 29, 42, 43, 44, 45, 46] (by decide +kernel) (by decide +kernel)
set_option maxRecDepth 20000 in
theorem gX5_takeBall_X5_roomLeft : GoodIn wsX5_takeBall (wsV RX5 58 RX5 yX5_roomLeft wsX5_roomLeft) := goodIn_app (goodIn_of _ (by decide +kernel)) ggX5_takeBall_X5_roomLeft
theorem dX5_takeBall_0 : decode cX5_takeBall 0 = .ok (.aload_n 0, 1) := by decide +kernel
theorem dX5_takeBall_1 : decode cX5_takeBall 1 = .ok (.iload_n 1, 1) := by decide +kernel
theorem dX5_takeBall_2 : decode cX5_takeBall 2 = .ok (.invokevirtual 68, 3) := by decide +kernel
theorem dX5_takeBall_5 : decode cX5_takeBall 5 = .ok (.istore_n 2, 1) := by decide +kernel
theorem dX5_takeBall_6 : decode cX5_takeBall 6 = .ok (.iload_n 2, 1) := by decide +kernel
theorem dX5_takeBall_7 : decode cX5_takeBall 7 = .ok (.iconst (-1), 1) := by decide +kernel
theorem dX5_takeBall_8 : decode cX5_takeBall 8 = .ok (.if_icmp .ne 8, 3) := by decide +kernel
theorem dX5_takeBall_11 : decode cX5_takeBall 11 = .ok (.aload_n 0, 1) := by decide +kernel
theorem dX5_takeBall_12 : decode cX5_takeBall 12 = .ok (.invokevirtual 71, 3) := by decide +kernel
theorem dX5_takeBall_15 : decode cX5_takeBall 15 = .ok (.istore_n 2, 1) := by decide +kernel
theorem dX5_takeBall_16 : decode cX5_takeBall 16 = .ok (.aload_n 0, 1) := by decide +kernel
theorem dX5_takeBall_17 : decode cX5_takeBall 17 = .ok (.iload_n 2, 1) := by decide +kernel
theorem dX5_takeBall_18 : decode cX5_takeBall 18 = .ok (.invokevirtual 25, 3) := by decide +kernel
theorem dX5_takeBall_21 : decode cX5_takeBall 21 = .ok (.ifCond .ne 4, 3) := by decide +kernel
theorem dX5_takeBall_24 : decode cX5_takeBall 24 = .ok (.return_, 1) := by decide +kernel
theorem dX5_takeBall_25 : decode cX5_takeBall 25 = .ok (.aload_n 0, 1) := by decide +kernel
theorem dX5_takeBall_26 : decode cX5_takeBall 26 = .ok (.getfield 9, 3) := by decide +kernel
theorem dX5_takeBall_29 : decode cX5_takeBall 29 = .ok (.iload_n 2, 1) := by decide +kernel
theorem dX5_takeBall_30 : decode cX5_takeBall 30 = .ok (.dup2, 1) := by decide +kernel
theorem dX5_takeBall_31 : decode cX5_takeBall 31 = .ok (.iaload, 1) := by decide +kernel
theorem dX5_takeBall_32 : decode cX5_takeBall 32 = .ok (.iconst 1, 1) := by decide +kernel
theorem dX5_takeBall_33 : decode cX5_takeBall 33 = .ok (.iadd, 1) := by decide +kernel
theorem dX5_takeBall_34 : decode cX5_takeBall 34 = .ok (.iastore, 1) := by decide +kernel
theorem dX5_takeBall_35 : decode cX5_takeBall 35 = .ok (.aload_n 0, 1) := by decide +kernel
theorem dX5_takeBall_36 : decode cX5_takeBall 36 = .ok (.aload_n 0, 1) := by decide +kernel
theorem dX5_takeBall_37 : decode cX5_takeBall 37 = .ok (.getfield 9, 3) := by decide +kernel
theorem dX5_takeBall_40 : decode cX5_takeBall 40 = .ok (.iload_n 2, 1) := by decide +kernel
theorem dX5_takeBall_41 : decode cX5_takeBall 41 = .ok (.iaload, 1) := by decide +kernel
theorem dX5_takeBall_42 : decode cX5_takeBall 42 = .ok (.iconst 1, 1) := by decide +kernel
theorem dX5_takeBall_43 : decode cX5_takeBall 43 = .ok (.invokevirtual 75, 3) := by decide +kernel
theorem dX5_takeBall_46 : decode cX5_takeBall 46 = .ok (.aload_n 0, 1) := by decide +kernel
theorem dX5_takeBall_47 : decode cX5_takeBall 47 = .ok (.getfield 15, 3) := by decide +kernel
theorem dX5_takeBall_50 : decode cX5_takeBall 50 = .ok (.iload_n 2, 1) := by decide +kernel
theorem dX5_takeBall_51 : decode cX5_takeBall 51 = .ok (.aload_n 0, 1) := by decide +kernel
theorem dX5_takeBall_52 : decode cX5_takeBall 52 = .ok (.aload_n 0, 1) := by decide +kernel
theorem dX5_takeBall_53 : decode cX5_takeBall 53 = .ok (.getfield 9, 3) := by decide +kernel
theorem dX5_takeBall_56 : decode cX5_takeBall 56 = .ok (.iload_n 2, 1) := by decide +kernel
theorem dX5_takeBall_57 : decode cX5_takeBall 57 = .ok (.iaload, 1) := by decide +kernel
theorem dX5_takeBall_58 : decode cX5_takeBall 58 = .ok (.iload_n 1, 1) := by decide +kernel
theorem dX5_takeBall_59 : decode cX5_takeBall 59 = .ok (.iconst 1, 1) := by decide +kernel
theorem dX5_takeBall_60 : decode cX5_takeBall 60 = .ok (.iadd, 1) := by decide +kernel
theorem dX5_takeBall_61 : decode cX5_takeBall 61 = .ok (.invokevirtual 58, 3) := by decide +kernel
theorem dX5_takeBall_64 : decode cX5_takeBall 64 = .ok (.iastore, 1) := by decide +kernel
theorem dX5_takeBall_65 : decode cX5_takeBall 65 = .ok (.return_, 1) := by decide +kernel
set_option maxRecDepth 20000 in
theorem ggX5_giveBall_X5_shortestTight : GoodIn wsX5_giveBall wsX5_shortestTight := goodIn_r _ [7, 8, 1, 9, 10, 11, 6, 12, 13, 14, 15, 16, 2, 17, 18, 19, 20, 21, 22, 23, 24, 25, 26, 27, 28, 29, 46, 47, 48, 49, 50] (by decide +kernel) (by decide +kernel)
set_option maxRecDepth 20000 in
theorem gX5_giveBall_X5_shortestTight : GoodIn wsX5_giveBall (wsV RX5 78 RX5 yX5_shortestTight wsX5_shortestTight) := goodIn_app (goodIn_of _ (by decide +kernel)) ggX5_giveBall_X5_shortestTight
set_option maxRecDepth 20000 in
theorem ggX5_giveBall_X5_isString : GoodIn wsX5_giveBall wsX5_isString := goodIn_r _ [20, 8, 46, 47, 48, 49, 50] (by decide +kernel) (by decide +kernel)
set_option maxRecDepth 20000 in
theorem gX5_giveBall_X5_isString : GoodIn wsX5_giveBall (wsV RX5 25 RX5 yX5_isString wsX5_isString) := goodIn_app (goodIn_of _ (by decide +kernel)) ggX5_giveBall_X5_isString
set_option maxRecDepth 20000 in
theorem ggX5_giveBall_X5_addToSums : GoodIn wsX5_giveBall wsX5_addToSums := goodIn_r _ [33, 34, 35, 36, 37, 29, 46, 47, 48, 49, 50] (by decide +kernel) (by decide +kernel)
set_option maxRecDepth 20000 in
theorem gX5_giveBall_X5_addToSums : GoodIn wsX5_giveBall (wsV RX5 75 RX5 yX5_addToSums wsX5_addToSums) := goodIn_app (goodIn_of _ (by decide +kernel)) ggX5_giveBall_X5_addToSums
set_option maxRecDepth 20000 in
theorem ggX5_giveBall_X5_removeString : GoodIn wsX5_giveBall wsX5_removeString := goodIn_r _ [41, 8, 42, 43, 44, 6, 45, 1, 2, 17, 18, 19, 20, 46, 47, 48, 49, 50] (by decide +kernel) (by decide +kernel)
set_option maxRecDepth 20000 in
theorem gX5_giveBall_X5_removeString : GoodIn wsX5_giveBall (wsV RX5 81 RX5 yX5_removeString wsX5_removeString) := goodIn_app (goodIn_of _ (by decide +kernel)) ggX5_giveBall_X5_removeString
set_option maxRecDepth 20000 in
theorem ggX5_giveBall_X5_roomLeft : GoodIn wsX5_giveBall wsX5_roomLeft := goodIn_r _ [28, 29, 46, 47, 48, 49, 50] (by decide +kernel) (by decide +kernel)
set_option maxRecDepth 20000 in
theorem gX5_giveBall_X5_roomLeft : GoodIn wsX5_giveBall (wsV RX5 58 RX5 yX5_roomLeft wsX5_roomLeft) := goodIn_app (goodIn_of _ (by decide +kernel)) ggX5_giveBall_X5_roomLeft
theorem dX5_giveBall_0 : decode cX5_giveBall 0 = .ok (.aload_n 0, 1) := by decide +kernel
theorem dX5_giveBall_1 : decode cX5_giveBall 1 = .ok (.iload_n 1, 1) := by decide +kernel
theorem dX5_giveBall_2 : decode cX5_giveBall 2 = .ok (.iconst 1, 1) := by decide +kernel
theorem dX5_giveBall_3 : decode cX5_giveBall 3 = .ok (.iadd, 1) := by decide +kernel
theorem dX5_giveBall_4 : decode cX5_giveBall 4 = .ok (.invokevirtual 78, 3) := by decide +kernel
theorem dX5_giveBall_7 : decode cX5_giveBall 7 = .ok (.istore_n 2, 1) := by decide +kernel
theorem dX5_giveBall_8 : decode cX5_giveBall 8 = .ok (.aload_n 0, 1) := by decide +kernel
theorem dX5_giveBall_9 : decode cX5_giveBall 9 = .ok (.iload_n 2, 1) := by decide +kernel
theorem dX5_giveBall_10 : decode cX5_giveBall 10 = .ok (.invokevirtual 25, 3) := by decide +kernel
theorem dX5_giveBall_13 : decode cX5_giveBall 13 = .ok (.ifCond .ne 5, 3) := by decide +kernel
theorem dX5_giveBall_16 : decode cX5_giveBall 16 = .ok (.iconst 0, 1) := by decide +kernel
theorem dX5_giveBall_17 : decode cX5_giveBall 17 = .ok (.ireturn, 1) := by decide +kernel
theorem dX5_giveBall_18 : decode cX5_giveBall 18 = .ok (.aload_n 0, 1) := by decide +kernel
theorem dX5_giveBall_19 : decode cX5_giveBall 19 = .ok (.aload_n 0, 1) := by decide +kernel
theorem dX5_giveBall_20 : decode cX5_giveBall 20 = .ok (.getfield 9, 3) := by decide +kernel
theorem dX5_giveBall_23 : decode cX5_giveBall 23 = .ok (.iload_n 2, 1) := by decide +kernel
theorem dX5_giveBall_24 : decode cX5_giveBall 24 = .ok (.iaload, 1) := by decide +kernel
theorem dX5_giveBall_25 : decode cX5_giveBall 25 = .ok (.iconst (-1), 1) := by decide +kernel
theorem dX5_giveBall_26 : decode cX5_giveBall 26 = .ok (.invokevirtual 75, 3) := by decide +kernel
theorem dX5_giveBall_29 : decode cX5_giveBall 29 = .ok (.aload_n 0, 1) := by decide +kernel
theorem dX5_giveBall_30 : decode cX5_giveBall 30 = .ok (.getfield 9, 3) := by decide +kernel
theorem dX5_giveBall_33 : decode cX5_giveBall 33 = .ok (.iload_n 2, 1) := by decide +kernel
theorem dX5_giveBall_34 : decode cX5_giveBall 34 = .ok (.dup2, 1) := by decide +kernel
theorem dX5_giveBall_35 : decode cX5_giveBall 35 = .ok (.iaload, 1) := by decide +kernel
theorem dX5_giveBall_36 : decode cX5_giveBall 36 = .ok (.iconst 1, 1) := by decide +kernel
theorem dX5_giveBall_37 : decode cX5_giveBall 37 = .ok (.isub, 1) := by decide +kernel
theorem dX5_giveBall_38 : decode cX5_giveBall 38 = .ok (.iastore, 1) := by decide +kernel
theorem dX5_giveBall_39 : decode cX5_giveBall 39 = .ok (.aload_n 0, 1) := by decide +kernel
theorem dX5_giveBall_40 : decode cX5_giveBall 40 = .ok (.getfield 9, 3) := by decide +kernel
theorem dX5_giveBall_43 : decode cX5_giveBall 43 = .ok (.iload_n 2, 1) := by decide +kernel
theorem dX5_giveBall_44 : decode cX5_giveBall 44 = .ok (.iaload, 1) := by decide +kernel
theorem dX5_giveBall_45 : decode cX5_giveBall 45 = .ok (.ifCond .ne 11, 3) := by decide +kernel
theorem dX5_giveBall_48 : decode cX5_giveBall 48 = .ok (.aload_n 0, 1) := by decide +kernel
theorem dX5_giveBall_49 : decode cX5_giveBall 49 = .ok (.iload_n 2, 1) := by decide +kernel
theorem dX5_giveBall_50 : decode cX5_giveBall 50 = .ok (.invokevirtual 81, 3) := by decide +kernel
theorem dX5_giveBall_53 : decode cX5_giveBall 53 = .ok (.goto 20, 3) := by decide +kernel
theorem dX5_giveBall_56 : decode cX5_giveBall 56 = .ok (.aload_n 0, 1) := by decide +kernel
theorem dX5_giveBall_57 : decode cX5_giveBall 57 = .ok (.getfield 15, 3) := by decide +kernel
theorem dX5_giveBall_60 : decode cX5_giveBall 60 = .ok (.iload_n 2, 1) := by decide +kernel
theorem dX5_giveBall_61 : decode cX5_giveBall 61 = .ok (.aload_n 0, 1) := by decide +kernel
theorem dX5_giveBall_62 : decode cX5_giveBall 62 = .ok (.aload_n 0, 1) := by decide +kernel
theorem dX5_giveBall_63 : decode cX5_giveBall 63 = .ok (.getfield 9, 3) := by decide +kernel
theorem dX5_giveBall_66 : decode cX5_giveBall 66 = .ok (.iload_n 2, 1) := by decide +kernel
theorem dX5_giveBall_67 : decode cX5_giveBall 67 = .ok (.iaload, 1) := by decide +kernel
theorem dX5_giveBall_68 : decode cX5_giveBall 68 = .ok (.iload_n 1, 1) := by decide +kernel
theorem dX5_giveBall_69 : decode cX5_giveBall 69 = .ok (.invokevirtual 58, 3) := by decide +kernel
theorem dX5_giveBall_72 : decode cX5_giveBall 72 = .ok (.iastore, 1) := by decide +kernel
theorem dX5_giveBall_73 : decode cX5_giveBall 73 = .ok (.iconst 1, 1) := by decide +kernel
theorem dX5_giveBall_74 : decode cX5_giveBall 74 = .ok (.ireturn, 1) := by decide +kernel
theorem dX5_addToSums_0 : decode cX5_addToSums 0 = .ok (.iload_n 1, 1) := by decide +kernel
theorem dX5_addToSums_1 : decode cX5_addToSums 1 = .ok (.iconst 0, 1) := by decide +kernel
theorem dX5_addToSums_2 : decode cX5_addToSums 2 = .ok (.invokestatic 84, 3) := by decide +kernel
theorem dX5_addToSums_5 : decode cX5_addToSums 5 = .ok (.istore_n 3, 1) := by decide +kernel
theorem dX5_addToSums_6 : decode cX5_addToSums 6 = .ok (.iload_n 3, 1) := by decide +kernel
theorem dX5_addToSums_7 : decode cX5_addToSums 7 = .ok (.sipush 240, 3) := by decide +kernel
theorem dX5_addToSums_10 : decode cX5_addToSums 10 = .ok (.if_icmp .gt 19, 3) := by decide +kernel
theorem dX5_addToSums_13 : decode cX5_addToSums 13 = .ok (.aload_n 0, 1) := by decide +kernel
theorem dX5_addToSums_14 : decode cX5_addToSums 14 = .ok (.getfield 18, 3) := by decide +kernel
theorem dX5_addToSums_17 : decode cX5_addToSums 17 = .ok (.iload_n 3, 1) := by decide +kernel
theorem dX5_addToSums_18 : decode cX5_addToSums 18 = .ok (.dup2, 1) := by decide +kernel
theorem dX5_addToSums_19 : decode cX5_addToSums 19 = .ok (.iaload, 1) := by decide +kernel
theorem dX5_addToSums_20 : decode cX5_addToSums 20 = .ok (.iload_n 2, 1) := by decide +kernel
theorem dX5_addToSums_21 : decode cX5_addToSums 21 = .ok (.iadd, 1) := by decide +kernel
theorem dX5_addToSums_22 : decode cX5_addToSums 22 = .ok (.iastore, 1) := by decide +kernel
theorem dX5_addToSums_23 : decode cX5_addToSums 23 = .ok (.iinc 3 1, 3) := by decide +kernel
theorem dX5_addToSums_26 : decode cX5_addToSums 26 = .ok (.goto (-20), 3) := by decide +kernel
theorem dX5_addToSums_29 : decode cX5_addToSums 29 = .ok (.return_, 1) := by decide +kernel
set_option maxRecDepth 20000 in
theorem ggX5_isTight_X5_riggingOf : GoodIn wsX5_isTight wsX5_riggingOf := goodIn_r _ [5, 6, 7, 8, 9, 4, 10, 11, 22, 23, 24, 25, 26] (by decide +kernel) (by decide +kernel)
set_option maxRecDepth 20000 in
theorem gX5_isTight_X5_riggingOf : GoodIn wsX5_isTight (wsV RX5 87 RX5 yX5_riggingOf wsX5_riggingOf) := goodIn_app (goodIn_of _ (by decide +kernel)) ggX5_isTight_X5_riggingOf
set_option maxRecDepth 20000 in
theorem ggX5_isTight_X5_lengthOf : GoodIn wsX5_isTight wsX5_lengthOf := goodIn_r _ [15, 16, 7, 8, 9, 4, 10, 11, 22, 23, 24, 25, 26] (by decide +kernel) (by decide +kernel)
set_option maxRecDepth 20000 in
theorem gX5_isTight_X5_lengthOf : GoodIn wsX5_isTight (wsV RX5 90 RX5 yX5_lengthOf wsX5_lengthOf) := goodIn_app (goodIn_of _ (by decide +kernel)) ggX5_isTight_X5_lengthOf
set_option maxRecDepth 20000 in
theorem ggX5_isTight_X5_roomLeft : GoodIn wsX5_isTight wsX5_roomLeft := goodIn_r _ [20, 21, 22, 23, 24, 25, 26] (by decide +kernel) (by decide +kernel)
set_option maxRecDepth 20000 in
theorem gX5_isTight_X5_roomLeft : GoodIn wsX5_isTight (wsV RX5 58 RX5 yX5_roomLeft wsX5_roomLeft) := goodIn_app (goodIn_of _ (by decide +kernel)) ggX5_isTight_X5_roomLeft
theorem dX5_isTight_0 : decode cX5_isTight 0 = .ok (.aload_n 0, 1) := by decide +kernel
theorem dX5_isTight_1 : decode cX5_isTight 1 = .ok (.iload_n 1, 1) := by decide +kernel
theorem dX5_isTight_2 : decode cX5_isTight 2 = .ok (.invokevirtual 87, 3) := by decide +kernel
theorem dX5_isTight_5 : decode cX5_isTight 5 = .ok (.aload_n 0, 1) := by decide +kernel
theorem dX5_isTight_6 : decode cX5_isTight 6 = .ok (.aload_n 0, 1) := by decide +kernel
theorem dX5_isTight_7 : decode cX5_isTight 7 = .ok (.iload_n 1, 1) := by decide +kernel
theorem dX5_isTight_8 : decode cX5_isTight 8 = .ok (.invokevirtual 90, 3) := by decide +kernel
theorem dX5_isTight_11 : decode cX5_isTight 11 = .ok (.iload_n 2, 1) := by decide +kernel
theorem dX5_isTight_12 : decode cX5_isTight 12 = .ok (.invokevirtual 58, 3) := by decide +kernel
theorem dX5_isTight_15 : decode cX5_isTight 15 = .ok (.if_icmp .ne 7, 3) := by decide +kernel
theorem dX5_isTight_18 : decode cX5_isTight 18 = .ok (.iconst 1, 1) := by decide +kernel
theorem dX5_isTight_19 : decode cX5_isTight 19 = .ok (.goto 4, 3) := by decide +kernel
theorem dX5_isTight_22 : decode cX5_isTight 22 = .ok (.iconst 0, 1) := by decide +kernel
theorem dX5_isTight_23 : decode cX5_isTight 23 = .ok (.ireturn, 1) := by decide +kernel
set_option maxRecDepth 20000 in
theorem ggX5_longestTight_X5_isTight : GoodIn wsX5_longestTight wsX5_isTight := goodIn_r _ [7, 8, 9, 10, 6, 11, 12, 13, 14, 15, 16, 1, 17, 18, 19, 20, 2, 21, 22, 23, 24, 25, 26, 27, 28, 29, 30] (by decide +kernel) (by decide +kernel)
set_option maxRecDepth 20000 in
theorem gX5_longestTight_X5_isTight : GoodIn wsX5_longestTight (wsV RX5 93 RX5 yX5_isTight wsX5_isTight) := goodIn_app (goodIn_of _ (by decide +kernel)) ggX5_longestTight_X5_isTight
set_option maxRecDepth 20000 in
theorem ggX5_longestTight_X5_lengthOf : GoodIn wsX5_longestTight wsX5_lengthOf := goodIn_r _ [20, 2, 13, 14, 15, 6, 16, 1, 26, 27, 28, 29, 30] (by decide +kernel) (by decide +kernel)
set_option maxRecDepth 20000 in
theorem gX5_longestTight_X5_lengthOf : GoodIn wsX5_longestTight (wsV RX5 90 RX5 yX5_lengthOf wsX5_lengthOf) := goodIn_app (goodIn_of _ (by decide +kernel)) ggX5_longestTight_X5_lengthOf
theorem dX5_longestTight_0 : decode cX5_longestTight 0 = .ok (.iconst (-1), 1) := by decide +kernel
theorem dX5_longestTight_1 : decode cX5_longestTight 1 = .ok (.istore_n 2, 1) := by decide +kernel
theorem dX5_longestTight_2 : decode cX5_longestTight 2 = .ok (.iconst 0, 1) := by decide +kernel
theorem dX5_longestTight_3 : decode cX5_longestTight 3 = .ok (.istore_n 3, 1) := by decide +kernel
theorem dX5_longestTight_4 : decode cX5_longestTight 4 = .ok (.iload_n 3, 1) := by decide +kernel
theorem dX5_longestTight_5 : decode cX5_longestTight 5 = .ok (.aload_n 0, 1) := by decide +kernel
theorem dX5_longestTight_6 : decode cX5_longestTight 6 = .ok (.getfield 21, 3) := by decide +kernel
theorem dX5_longestTight_9 : decode cX5_longestTight 9 = .ok (.if_icmp .ge 46, 3) := by decide +kernel
theorem dX5_longestTight_12 : decode cX5_longestTight 12 = .ok (.iload_n 3, 1) := by decide +kernel
theorem dX5_longestTight_13 : decode cX5_longestTight 13 = .ok (.sipush 240, 3) := by decide +kernel
theorem dX5_longestTight_16 : decode cX5_longestTight 16 = .ok (.if_icmp .ge 39, 3) := by decide +kernel
theorem dX5_longestTight_19 : decode cX5_longestTight 19 = .ok (.aload_n 0, 1) := by decide +kernel
theorem dX5_longestTight_20 : decode cX5_longestTight 20 = .ok (.iload_n 3, 1) := by decide +kernel
theorem dX5_longestTight_21 : decode cX5_longestTight 21 = .ok (.iload_n 1, 1) := by decide +kernel
theorem dX5_longestTight_22 : decode cX5_longestTight 22 = .ok (.invokevirtual 93, 3) := by decide +kernel
theorem dX5_longestTight_25 : decode cX5_longestTight 25 = .ok (.ifCond .eq 24, 3) := by decide +kernel
theorem dX5_longestTight_28 : decode cX5_longestTight 28 = .ok (.iload_n 2, 1) := by decide +kernel
theorem dX5_longestTight_29 : decode cX5_longestTight 29 = .ok (.iconst (-1), 1) := by decide +kernel
theorem dX5_longestTight_30 : decode cX5_longestTight 30 = .ok (.if_icmp .eq 17, 3) := by decide +kernel
theorem dX5_longestTight_33 : decode cX5_longestTight 33 = .ok (.aload_n 0, 1) := by decide +kernel
theorem dX5_longestTight_34 : decode cX5_longestTight 34 = .ok (.getfield 9, 3) := by decide +kernel
theorem dX5_longestTight_37 : decode cX5_longestTight 37 = .ok (.iload_n 3, 1) := by decide +kernel
theorem dX5_longestTight_38 : decode cX5_longestTight 38 = .ok (.iaload, 1) := by decide +kernel
theorem dX5_longestTight_39 : decode cX5_longestTight 39 = .ok (.aload_n 0, 1) := by decide +kernel
theorem dX5_longestTight_40 : decode cX5_longestTight 40 = .ok (.iload_n 2, 1) := by decide +kernel
theorem dX5_longestTight_41 : decode cX5_longestTight 41 = .ok (.invokevirtual 90, 3) := by decide +kernel
theorem dX5_longestTight_44 : decode cX5_longestTight 44 = .ok (.if_icmp .le 5, 3) := by decide +kernel
theorem dX5_longestTight_47 : decode cX5_longestTight 47 = .ok (.iload_n 3, 1) := by decide +kernel
theorem dX5_longestTight_48 : decode cX5_longestTight 48 = .ok (.istore_n 2, 1) := by decide +kernel
theorem dX5_longestTight_49 : decode cX5_longestTight 49 = .ok (.iinc 3 1, 3) := by decide +kernel
theorem dX5_longestTight_52 : decode cX5_longestTight 52 = .ok (.goto (-48), 3) := by decide +kernel
theorem dX5_longestTight_55 : decode cX5_longestTight 55 = .ok (.iload_n 2, 1) := by decide +kernel
theorem dX5_longestTight_56 : decode cX5_longestTight 56 = .ok (.ireturn, 1) := by decide +kernel
set_option maxRecDepth 20000 in
theorem ggX5_shortestTight_X5_isTight : GoodIn wsX5_shortestTight wsX5_isTight := goodIn_r _ [7, 8, 9, 10, 6, 11, 12, 13, 14, 15, 16, 1, 17, 18, 19, 20, 2, 21, 22, 23, 24, 25, 26, 27, 28, 29, 30] (by decide +kernel) (by decide +kernel)
set_option maxRecDepth 20000 in
theorem gX5_shortestTight_X5_isTight : GoodIn wsX5_shortestTight (wsV RX5 93 RX5 yX5_isTight wsX5_isTight) := goodIn_app (goodIn_of _ (by decide +kernel)) ggX5_shortestTight_X5_isTight
set_option maxRecDepth 20000 in
theorem ggX5_shortestTight_X5_lengthOf : GoodIn wsX5_shortestTight wsX5_lengthOf := goodIn_r _ [20, 2, 13, 14, 15, 6, 16, 1, 26, 27, 28, 29, 30] (by decide +kernel) (by decide +kernel)
set_option maxRecDepth 20000 in
theorem gX5_shortestTight_X5_lengthOf : GoodIn wsX5_shortestTight (wsV RX5 90 RX5 yX5_lengthOf wsX5_lengthOf) := goodIn_app (goodIn_of _ (by decide +kernel)) ggX5_shortestTight_X5_lengthOf
theorem dX5_shortestTight_0 : decode cX5_shortestTight 0 = .ok (.iconst (-1), 1) := by decide +kernel
theorem dX5_shortestTight_1 : decode cX5_shortestTight 1 = .ok (.istore_n 2, 1) := by decide +kernel
theorem dX5_shortestTight_2 : decode cX5_shortestTight 2 = .ok (.iconst 0, 1) := by decide +kernel
theorem dX5_shortestTight_3 : decode cX5_shortestTight 3 = .ok (.istore_n 3, 1) := by decide +kernel
theorem dX5_shortestTight_4 : decode cX5_shortestTight 4 = .ok (.iload_n 3, 1) := by decide +kernel
theorem dX5_shortestTight_5 : decode cX5_shortestTight 5 = .ok (.aload_n 0, 1) := by decide +kernel
theorem dX5_shortestTight_6 : decode cX5_shortestTight 6 = .ok (.getfield 21, 3) := by decide +kernel
theorem dX5_shortestTight_9 : decode cX5_shortestTight 9 = .ok (.if_icmp .ge 46, 3) := by decide +kernel
theorem dX5_shortestTight_12 : decode cX5_shortestTight 12 = .ok (.iload_n 3, 1) := by decide +kernel
theorem dX5_shortestTight_13 : decode cX5_shortestTight 13 = .ok (.sipush 240, 3) := by decide +kernel
theorem dX5_shortestTight_16 : decode cX5_shortestTight 16 = .ok (.if_icmp .ge 39, 3) := by decide +kernel
theorem dX5_shortestTight_19 : decode cX5_shortestTight 19 = .ok (.aload_n 0, 1) := by decide +kernel
theorem dX5_shortestTight_20 : decode cX5_shortestTight 20 = .ok (.iload_n 3, 1) := by decide +kernel
theorem dX5_shortestTight_21 : decode cX5_shortestTight 21 = .ok (.iload_n 1, 1) := by decide +kernel
theorem dX5_shortestTight_22 : decode cX5_shortestTight 22 = .ok (.invokevirtual 93, 3) := by decide +kernel
theorem dX5_shortestTight_25 : decode cX5_shortestTight 25 = .ok (.ifCond .eq 24, 3) := by decide +kernel
theorem dX5_shortestTight_28 : decode cX5_shortestTight 28 = .ok (.iload_n 2, 1) := by decide +kernel
theorem dX5_shortestTight_29 : decode cX5_shortestTight 29 = .ok (.iconst (-1), 1) := by decide +kernel
theorem dX5_shortestTight_30 : decode cX5_shortestTight 30 = .ok (.if_icmp .eq 17, 3) := by decide +kernel
theorem dX5_shortestTight_33 : decode cX5_shortestTight 33 = .ok (.aload_n 0, 1) := by decide +kernel
theorem dX5_shortestTight_34 : decode cX5_shortestTight 34 = .ok (.getfield 9, 3) := by decide +kernel
theorem dX5_shortestTight_37 : decode cX5_shortestTight 37 = .ok (.iload_n 3, 1) := by decide +kernel
theorem dX5_shortestTight_38 : decode cX5_shortestTight 38 = .ok (.iaload, 1) := by decide +kernel
theorem dX5_shortestTight_39 : decode cX5_shortestTight 39 = .ok (.aload_n 0, 1) := by decide +kernel
theorem dX5_shortestTight_40 : decode cX5_shortestTight 40 = .ok (.iload_n 2, 1) := by decide +kernel
theorem dX5_shortestTight_41 : decode cX5_shortestTight 41 = .ok (.invokevirtual 90, 3) := by decide +kernel
theorem dX5_shortestTight_44 : decode cX5_shortestTight 44 = .ok (.if_icmp .ge 5, 3) := by decide +kernel
theorem dX5_shortestTight_47 : decode cX5_shortestTight 47 = .ok (.iload_n 3, 1) := by decide +kernel
theorem dX5_shortestTight_48 : decode cX5_shortestTight 48 = .ok (.istore_n 2, 1) := by decide +kernel
theorem dX5_shortestTight_49 : decode cX5_shortestTight 49 = .ok (.iinc 3 1, 3) := by decide +kernel
theorem dX5_shortestTight_52 : decode cX5_shortestTight 52 = .ok (.goto (-48), 3) := by decide +kernel
theorem dX5_shortestTight_55 : decode cX5_shortestTight 55 = .ok (.iload_n 2, 1) := by decide +kernel
theorem dX5_shortestTight_56 : decode cX5_shortestTight 56 = .ok (.ireturn, 1) := by decide +kernel
theorem dX5_addString_0 : decode cX5_addString 0 = .ok (.aload_n 0, 1) := by decide +kernel
theorem dX5_addString_1 : decode cX5_addString 1 = .ok (.getfield 21, 3) := by decide +kernel
theorem dX5_addString_4 : decode cX5_addString 4 = .ok (.sipush 240, 3) := by decide +kernel
theorem dX5_addString_7 : decode cX5_addString 7 = .ok (.if_icmp .lt 5, 3) := by decide +kernel
theorem dX5_addString_10 : decode cX5_addString 10 = .ok (.iconst (-1), 1) := by decide +kernel
theorem dX5_addString_11 : decode cX5_addString 11 = .ok (.ireturn, 1) := by decide +kernel
theorem dX5_addString_12 : decode cX5_addString 12 = .ok (.aload_n 0, 1) := by decide +kernel
theorem dX5_addString_13 : decode cX5_addString 13 = .ok (.getfield 9, 3) := by decide +kernel
theorem dX5_addString_16 : decode cX5_addString 16 = .ok (.aload_n 0, 1) := by decide +kernel
theorem dX5_addString_17 : decode cX5_addString 17 = .ok (.getfield 21, 3) := by decide +kernel
theorem dX5_addString_20 : decode cX5_addString 20 = .ok (.iconst 0, 1) := by decide +kernel
theorem dX5_addString_21 : decode cX5_addString 21 = .ok (.iastore, 1) := by decide +kernel
theorem dX5_addString_22 : decode cX5_addString 22 = .ok (.aload_n 0, 1) := by decide +kernel
theorem dX5_addString_23 : decode cX5_addString 23 = .ok (.dup, 1) := by decide +kernel
theorem dX5_addString_24 : decode cX5_addString 24 = .ok (.getfield 21, 3) := by decide +kernel
theorem dX5_addString_27 : decode cX5_addString 27 = .ok (.iconst 1, 1) := by decide +kernel
theorem dX5_addString_28 : decode cX5_addString 28 = .ok (.iadd, 1) := by decide +kernel
theorem dX5_addString_29 : decode cX5_addString 29 = .ok (.putfield 21, 3) := by decide +kernel
theorem dX5_addString_32 : decode cX5_addString 32 = .ok (.aload_n 0, 1) := by decide +kernel
theorem dX5_addString_33 : decode cX5_addString 33 = .ok (.getfield 21, 3) := by decide +kernel
theorem dX5_addString_36 : decode cX5_addString 36 = .ok (.iconst 1, 1) := by decide +kernel
theorem dX5_addString_37 : decode cX5_addString 37 = .ok (.isub, 1) := by decide +kernel
theorem dX5_addString_38 : decode cX5_addString 38 = .ok (.ireturn, 1) := by decide +kernel
set_option maxRecDepth 20000 in
theorem ggX5_removeString_X5_swap : GoodIn wsX5_removeString wsX5_swap := goodIn_r _ [6, 7, 8, 9, 10, 11, 5, 12, 1, 13, 14, 15, 16, 17] (by decide +kernel) (by decide +kernel)
set_option maxRecDepth 20000 in
theorem gX5_removeString_X5_swap : GoodIn wsX5_removeString (wsV RX5 65 RX5 yX5_swap wsX5_swap) := goodIn_app (goodIn_of _ (by decide +kernel)) ggX5_removeString_X5_swap
theorem dX5_removeString_0 : decode cX5_removeString 0 = .ok (.aload_n 0, 1) := by decide +kernel
theorem dX5_removeString_1 : decode cX5_removeString 1 = .ok (.iload_n 1, 1) := by decide +kernel
theorem dX5_removeString_2 : decode cX5_removeString 2 = .ok (.aload_n 0, 1) := by decide +kernel
theorem dX5_removeString_3 : decode cX5_removeString 3 = .ok (.getfield 21, 3) := by decide +kernel
theorem dX5_removeString_6 : decode cX5_removeString 6 = .ok (.iconst 1, 1) := by decide +kernel
theorem dX5_removeString_7 : decode cX5_removeString 7 = .ok (.isub, 1) := by decide +kernel
theorem dX5_removeString_8 : decode cX5_removeString 8 = .ok (.invokevirtual 65, 3) := by decide +kernel
theorem dX5_removeString_11 : decode cX5_removeString 11 = .ok (.aload_n 0, 1) := by decide +kernel
theorem dX5_removeString_12 : decode cX5_removeString 12 = .ok (.dup, 1) := by decide +kernel
theorem dX5_removeString_13 : decode cX5_removeString 13 = .ok (.getfield 21, 3) := by decide +kernel
theorem dX5_removeString_16 : decode cX5_removeString 16 = .ok (.iconst 1, 1) := by decide +kernel
theorem dX5_removeString_17 : decode cX5_removeString 17 = .ok (.isub, 1) := by decide +kernel
theorem dX5_removeString_18 : decode cX5_removeString 18 = .ok (.putfield 21, 3) := by decide +kernel
theorem dX5_removeString_21 : decode cX5_removeString 21 = .ok (.return_, 1) := by decide +kernel
set_option maxRecDepth 20000 in
theorem ggX5_isBehind_X5_lengthOf : GoodIn wsX5_isBehind wsX5_lengthOf := goodIn_r _ [5, 6, 7, 8, 9, 4, 10, 11, 17, 18, 19, 20, 21] (by decide +kernel) (by decide +kernel)
set_option maxRecDepth 20000 in
theorem gX5_isBehind_X5_lengthOf : GoodIn wsX5_isBehind (wsV RX5 90 RX5 yX5_lengthOf wsX5_lengthOf) := goodIn_app (goodIn_of _ (by decide +kernel)) ggX5_isBehind_X5_lengthOf
set_option maxRecDepth 20000 in
theorem ggX5_isBehind_X5_riggingOf : GoodIn wsX5_isBehind wsX5_riggingOf := goodIn_r _ [15, 16, 7, 8, 9, 4, 10, 11, 17, 18, 19, 20, 21] (by decide +kernel) (by decide +kernel)
set_option maxRecDepth 20000 in
theorem gX5_isBehind_X5_riggingOf : GoodIn wsX5_isBehind (wsV RX5 87 RX5 yX5_riggingOf wsX5_riggingOf) := goodIn_app (goodIn_of _ (by decide +kernel)) ggX5_isBehind_X5_riggingOf
theorem dX5_isBehind_0 : decode cX5_isBehind 0 = .ok (.aload_n 0, 1) := by decide +kernel
theorem dX5_isBehind_1 : decode cX5_isBehind 1 = .ok (.iload_n 1, 1) := by decide +kernel
theorem dX5_isBehind_2 : decode cX5_isBehind 2 = .ok (.invokevirtual 90, 3) := by decide +kernel
theorem dX5_isBehind_5 : decode cX5_isBehind 5 = .ok (.aload_n 0, 1) := by decide +kernel
theorem dX5_isBehind_6 : decode cX5_isBehind 6 = .ok (.iload_n 2, 1) := by decide +kernel
theorem dX5_isBehind_7 : decode cX5_isBehind 7 = .ok (.invokevirtual 90, 3) := by decide +kernel
theorem dX5_isBehind_10 : decode cX5_isBehind 10 = .ok (.if_icmp .eq 22, 3) := by decide +kernel
theorem dX5_isBehind_13 : decode cX5_isBehind 13 = .ok (.aload_n 0, 1) := by decide +kernel
theorem dX5_isBehind_14 : decode cX5_isBehind 14 = .ok (.iload_n 1, 1) := by decide +kernel
theorem dX5_isBehind_15 : decode cX5_isBehind 15 = .ok (.invokevirtual 90, 3) := by decide +kernel
theorem dX5_isBehind_18 : decode cX5_isBehind 18 = .ok (.aload_n 0, 1) := by decide +kernel
theorem dX5_isBehind_19 : decode cX5_isBehind 19 = .ok (.iload_n 2, 1) := by decide +kernel
theorem dX5_isBehind_20 : decode cX5_isBehind 20 = .ok (.invokevirtual 90, 3) := by decide +kernel
theorem dX5_isBehind_23 : decode cX5_isBehind 23 = .ok (.if_icmp .ge 7, 3) := by decide +kernel
theorem dX5_isBehind_26 : decode cX5_isBehind 26 = .ok (.iconst 1, 1) := by decide +kernel
theorem dX5_isBehind_27 : decode cX5_isBehind 27 = .ok (.goto 4, 3) := by decide +kernel
theorem dX5_isBehind_30 : decode cX5_isBehind 30 = .ok (.iconst 0, 1) := by decide +kernel
theorem dX5_isBehind_31 : decode cX5_isBehind 31 = .ok (.ireturn, 1) := by decide +kernel
theorem dX5_isBehind_32 : decode cX5_isBehind 32 = .ok (.aload_n 0, 1) := by decide +kernel
theorem dX5_isBehind_33 : decode cX5_isBehind 33 = .ok (.iload_n 1, 1) := by decide +kernel
theorem dX5_isBehind_34 : decode cX5_isBehind 34 = .ok (.invokevirtual 87, 3) := by decide +kernel
theorem dX5_isBehind_37 : decode cX5_isBehind 37 = .ok (.aload_n 0, 1) := by decide +kernel
theorem dX5_isBehind_38 : decode cX5_isBehind 38 = .ok (.iload_n 2, 1) := by decide +kernel
theorem dX5_isBehind_39 : decode cX5_isBehind 39 = .ok (.invokevirtual 87, 3) := by decide +kernel
theorem dX5_isBehind_42 : decode cX5_isBehind 42 = .ok (.if_icmp .ge 7, 3) := by decide +kernel
theorem dX5_isBehind_45 : decode cX5_isBehind 45 = .ok (.iconst 1, 1) := by decide +kernel
theorem dX5_isBehind_46 : decode cX5_isBehind 46 = .ok (.goto 4, 3) := by decide +kernel
theorem dX5_isBehind_49 : decode cX5_isBehind 49 = .ok (.iconst 0, 1) := by decide +kernel
theorem dX5_isBehind_50 : decode cX5_isBehind 50 = .ok (.ireturn, 1) := by decide +kernel
set_option maxRecDepth 20000 in
theorem ggX5_swap_X5_isString : GoodIn wsX5_swap wsX5_isString := goodIn_r _ [7, 8, 9, 10, 11, 12, 13] (by decide +kernel) (by decide +kernel)
set_option maxRecDepth 20000 in
theorem gX5_swap_X5_isString : GoodIn wsX5_swap (wsV RX5 25 RX5 yX5_isString wsX5_isString) := goodIn_app (goodIn_of _ (by decide +kernel)) ggX5_swap_X5_isString
theorem dX5_swap_0 : decode cX5_swap 0 = .ok (.aload_n 0, 1) := by decide +kernel
theorem dX5_swap_1 : decode cX5_swap 1 = .ok (.iload_n 1, 1) := by decide +kernel
theorem dX5_swap_2 : decode cX5_swap 2 = .ok (.invokevirtual 25, 3) := by decide +kernel
theorem dX5_swap_5 : decode cX5_swap 5 = .ok (.ifCond .eq 11, 3) := by decide +kernel
theorem dX5_swap_8 : decode cX5_swap 8 = .ok (.aload_n 0, 1) := by decide +kernel
theorem dX5_swap_9 : decode cX5_swap 9 = .ok (.iload_n 2, 1) := by decide +kernel
theorem dX5_swap_10 : decode cX5_swap 10 = .ok (.invokevirtual 25, 3) := by decide +kernel
theorem dX5_swap_13 : decode cX5_swap 13 = .ok (.ifCond .ne 4, 3) := by decide +kernel
theorem dX5_swap_16 : decode cX5_swap 16 = .ok (.return_, 1) := by decide +kernel
theorem dX5_swap_17 : decode cX5_swap 17 = .ok (.aload_n 0, 1) := by decide +kernel
theorem dX5_swap_18 : decode cX5_swap 18 = .ok (.getfield 9, 3) := by decide +kernel
theorem dX5_swap_21 : decode cX5_swap 21 = .ok (.iload_n 1, 1) := by decide +kernel
theorem dX5_swap_22 : decode cX5_swap 22 = .ok (.iaload, 1) := by decide +kernel
theorem dX5_swap_23 : decode cX5_swap 23 = .ok (.istore_n 3, 1) := by decide +kernel
theorem dX5_swap_24 : decode cX5_swap 24 = .ok (.aload_n 0, 1) := by decide +kernel
theorem dX5_swap_25 : decode cX5_swap 25 = .ok (.getfield 15, 3) := by decide +kernel
theorem dX5_swap_28 : decode cX5_swap 28 = .ok (.iload_n 1, 1) := by decide +kernel
theorem dX5_swap_29 : decode cX5_swap 29 = .ok (.iaload, 1) := by decide +kernel
theorem dX5_swap_30 : decode cX5_swap 30 = .ok (.istore 4, 2) := by decide +kernel
theorem dX5_swap_32 : decode cX5_swap 32 = .ok (.aload_n 0, 1) := by decide +kernel
theorem dX5_swap_33 : decode cX5_swap 33 = .ok (.getfield 9, 3) := by decide +kernel
theorem dX5_swap_36 : decode cX5_swap 36 = .ok (.iload_n 1, 1) := by decide +kernel
theorem dX5_swap_37 : decode cX5_swap 37 = .ok (.aload_n 0, 1) := by decide +kernel
theorem dX5_swap_38 : decode cX5_swap 38 = .ok (.getfield 9, 3) := by decide +kernel
theorem dX5_swap_41 : decode cX5_swap 41 = .ok (.iload_n 2, 1) := by decide +kernel
theorem dX5_swap_42 : decode cX5_swap 42 = .ok (.iaload, 1) := by decide +kernel
theorem dX5_swap_43 : decode cX5_swap 43 = .ok (.iastore, 1) := by decide +kernel
theorem dX5_swap_44 : decode cX5_swap 44 = .ok (.aload_n 0, 1) := by decide +kernel
theorem dX5_swap_45 : decode cX5_swap 45 = .ok (.getfield 15, 3) := by decide +kernel
theorem dX5_swap_48 : decode cX5_swap 48 = .ok (.iload_n 1, 1) := by decide +kernel
theorem dX5_swap_49 : decode cX5_swap 49 = .ok (.aload_n 0, 1) := by decide +kernel
theorem dX5_swap_50 : decode cX5_swap 50 = .ok (.getfield 15, 3) := by decide +kernel
theorem dX5_swap_53 : decode cX5_swap 53 = .ok (.iload_n 2, 1) := by decide +kernel
theorem dX5_swap_54 : decode cX5_swap 54 = .ok (.iaload, 1) := by decide +kernel
theorem dX5_swap_55 : decode cX5_swap 55 = .ok (.iastore, 1) := by decide +kernel
theorem dX5_swap_56 : decode cX5_swap 56 = .ok (.aload_n 0, 1) := by decide +kernel
theorem dX5_swap_57 : decode cX5_swap 57 = .ok (.getfield 9, 3) := by decide +kernel
theorem dX5_swap_60 : decode cX5_swap 60 = .ok (.iload_n 2, 1) := by decide +kernel
theorem dX5_swap_61 : decode cX5_swap 61 = .ok (.iload_n 3, 1) := by decide +kernel
theorem dX5_swap_62 : decode cX5_swap 62 = .ok (.iastore, 1) := by decide +kernel
theorem dX5_swap_63 : decode cX5_swap 63 = .ok (.aload_n 0, 1) := by decide +kernel
theorem dX5_swap_64 : decode cX5_swap 64 = .ok (.getfield 15, 3) := by decide +kernel
theorem dX5_swap_67 : decode cX5_swap 67 = .ok (.iload_n 2, 1) := by decide +kernel
theorem dX5_swap_68 : decode cX5_swap 68 = .ok (.iload 4, 2) := by decide +kernel
theorem dX5_swap_70 : decode cX5_swap 70 = .ok (.iastore, 1) := by decide +kernel
theorem dX5_swap_71 : decode cX5_swap 71 = .ok (.return_, 1) := by decide +kernel
set_option maxRecDepth 20000 in
theorem ggX6_init_X3_init : GoodIn wsX6_init wsX3_init := goodIn_r _ [30, 31, 2, 3, 32, 33, 34, 61, 62] (by decide +kernel) (by decide +kernel)
set_option maxRecDepth 20000 in
theorem gX6_init_X3_init_n9 : GoodIn wsX6_init (wsX3_init) := ggX6_init_X3_init
set_option maxRecDepth 20000 in
theorem ggX6_init_X0_init : GoodIn wsX6_init wsX0_init := goodIn_r _ [36, 37, 2, 3, 32, 38, 72, 73] (by decide +kernel) (by decide +kernel)
set_option maxRecDepth 20000 in
theorem gX6_init_X0_init_n18 : GoodIn wsX6_init (wsX0_init) := ggX6_init_X0_init
set_option maxRecDepth 20000 in
theorem ggX6_init_X5_init : GoodIn wsX6_init wsX5_init := goodIn_r _ [40, 41, 2, 3, 32, 42, 43, 44, 74, 75, 76, 77, 78] (by decide +kernel) (by decide +kernel)
set_option maxRecDepth 20000 in
theorem gX6_init_X5_init_n25 : GoodIn wsX6_init (wsX5_init) := ggX6_init_X5_init
set_option maxRecDepth 20000 in
theorem ggX6_init_X1_init : GoodIn wsX6_init wsX1_init := goodIn_r _ [46, 47, 2, 3, 48, 79, 80, 81, 82] (by decide +kernel) (by decide +kernel)
set_option maxRecDepth 20000 in
theorem gX6_init_X1_init_n35 : GoodIn wsX6_init (wsX1_init) := ggX6_init_X1_init
set_option maxRecDepth 20000 in
theorem ggX6_init_X2_init : GoodIn wsX6_init wsX2_init := goodIn_r _ [50, 51, 2, 3, 52, 18, 19, 53, 54, 55, 45, 46, 47, 48, 79, 80, 81, 82, 83, 84] (by decide +kernel) (by decide +kernel)
set_option maxRecDepth 20000 in
theorem gX6_init_X2_init_n42 : GoodIn wsX6_init (wsX2_init) := ggX6_init_X2_init
set_option maxRecDepth 20000 in
theorem ggX6_init_X4_init : GoodIn wsX6_init wsX4_init := goodIn_r _ [57, 58, 2, 3, 32, 59, 60, 85, 86, 87, 88] (by decide +kernel) (by decide +kernel)
set_option maxRecDepth 20000 in
theorem gX6_init_X4_init_n53 : GoodIn wsX6_init (wsX4_init) := ggX6_init_X4_init
theorem dX6_init_0 : decode cX6_init 0 = .ok (.aload_n 0, 1) := by decide +kernel
theorem dX6_init_1 : decode cX6_init 1 = .ok (.invokespecial 1, 3) := by decide +kernel
theorem dX6_init_4 : decode cX6_init 4 = .ok (.aload_n 0, 1) := by decide +kernel
theorem dX6_init_5 : decode cX6_init 5 = .ok (.new 7, 3) := by decide +kernel
theorem dX6_init_8 : decode cX6_init 8 = .ok (.dup, 1) := by decide +kernel
theorem dX6_init_9 : decode cX6_init 9 = .ok (.invokespecial 9, 3) := by decide +kernel
theorem dX6_init_12 : decode cX6_init 12 = .ok (.putfield 10, 3) := by decide +kernel
theorem dX6_init_15 : decode cX6_init 15 = .ok (.aload_n 0, 1) := by decide +kernel
theorem dX6_init_16 : decode cX6_init 16 = .ok (.new 16, 3) := by decide +kernel
theorem dX6_init_19 : decode cX6_init 19 = .ok (.dup, 1) := by decide +kernel
theorem dX6_init_20 : decode cX6_init 20 = .ok (.invokespecial 18, 3) := by decide +kernel
theorem dX6_init_23 : decode cX6_init 23 = .ok (.putfield 19, 3) := by decide +kernel
theorem dX6_init_26 : decode cX6_init 26 = .ok (.aload_n 0, 1) := by decide +kernel
theorem dX6_init_27 : decode cX6_init 27 = .ok (.new 23, 3) := by decide +kernel
theorem dX6_init_30 : decode cX6_init 30 = .ok (.dup, 1) := by decide +kernel
theorem dX6_init_31 : decode cX6_init 31 = .ok (.invokespecial 25, 3) := by decide +kernel
theorem dX6_init_34 : decode cX6_init 34 = .ok (.putfield 26, 3) := by decide +kernel
theorem dX6_init_37 : decode cX6_init 37 = .ok (.aload_n 0, 1) := by decide +kernel
theorem dX6_init_38 : decode cX6_init 38 = .ok (.new 23, 3) := by decide +kernel
theorem dX6_init_41 : decode cX6_init 41 = .ok (.dup, 1) := by decide +kernel
theorem dX6_init_42 : decode cX6_init 42 = .ok (.invokespecial 25, 3) := by decide +kernel
theorem dX6_init_45 : decode cX6_init 45 = .ok (.putfield 30, 3) := by decide +kernel
theorem dX6_init_48 : decode cX6_init 48 = .ok (.aload_n 0, 1) := by decide +kernel
theorem dX6_init_49 : decode cX6_init 49 = .ok (.new 33, 3) := by decide +kernel
theorem dX6_init_52 : decode cX6_init 52 = .ok (.dup, 1) := by decide +kernel
theorem dX6_init_53 : decode cX6_init 53 = .ok (.invokespecial 35, 3) := by decide +kernel
theorem dX6_init_56 : decode cX6_init 56 = .ok (.putfield 36, 3) := by decide +kernel
theorem dX6_init_59 : decode cX6_init 59 = .ok (.aload_n 0, 1) := by decide +kernel
theorem dX6_init_60 : decode cX6_init 60 = .ok (.new 40, 3) := by decide +kernel
theorem dX6_init_63 : decode cX6_init 63 = .ok (.dup, 1) := by decide +kernel
theorem dX6_init_64 : decode cX6_init 64 = .ok (.invokespecial 42, 3) := by decide +kernel
theorem dX6_init_67 : decode cX6_init 67 = .ok (.putfield 43, 3) := by decide +kernel
theorem dX6_init_70 : decode cX6_init 70 = .ok (.aload_n 0, 1) := by decide +kernel
theorem dX6_init_71 : decode cX6_init 71 = .ok (.iconst 4, 1) := by decide +kernel
theorem dX6_init_72 : decode cX6_init 72 = .ok (.anewarray 47, 3) := by decide +kernel
theorem dX6_init_75 : decode cX6_init 75 = .ok (.putfield 49, 3) := by decide +kernel
theorem dX6_init_78 : decode cX6_init 78 = .ok (.iconst 0, 1) := by decide +kernel
theorem dX6_init_79 : decode cX6_init 79 = .ok (.istore_n 1, 1) := by decide +kernel
theorem dX6_init_80 : decode cX6_init 80 = .ok (.iload_n 1, 1) := by decide +kernel
theorem dX6_init_81 : decode cX6_init 81 = .ok (.aload_n 0, 1) := by decide +kernel
theorem dX6_init_82 : decode cX6_init 82 = .ok (.getfield 49, 3) := by decide +kernel
theorem dX6_init_85 : decode cX6_init 85 = .ok (.arraylength, 1) := by decide +kernel
theorem dX6_init_86 : decode cX6_init 86 = .ok (.if_icmp .ge 22, 3) := by decide +kernel
theorem dX6_init_89 : decode cX6_init 89 = .ok (.aload_n 0, 1) := by decide +kernel
theorem dX6_init_90 : decode cX6_init 90 = .ok (.getfield 49, 3) := by decide +kernel
theorem dX6_init_93 : decode cX6_init 93 = .ok (.iload_n 1, 1) := by decide +kernel
theorem dX6_init_94 : decode cX6_init 94 = .ok (.new 47, 3) := by decide +kernel
theorem dX6_init_97 : decode cX6_init 97 = .ok (.dup, 1) := by decide +kernel
theorem dX6_init_98 : decode cX6_init 98 = .ok (.invokespecial 53, 3) := by decide +kernel
theorem dX6_init_101 : decode cX6_init 101 = .ok (.aastore, 1) := by decide +kernel
theorem dX6_init_102 : decode cX6_init 102 = .ok (.iinc 1 1, 3) := by decide +kernel
theorem dX6_init_105 : decode cX6_init 105 = .ok (.goto (-25), 3) := by decide +kernel
theorem dX6_init_108 : decode cX6_init 108 = .ok (.return_, 1) := by decide +kernel
set_option maxRecDepth 20000 in
theorem ggX6_set_X6_isBox : GoodIn wsX6_set wsX6_isBox := goodIn_r _ [5] (by decide +kernel) (by decide +kernel)
set_option maxRecDepth 20000 in
theorem gX6_set_X6_isBox : GoodIn wsX6_set (va_wsS RX6 54 yX6_isBox wsX6_isBox) := goodIn_app (goodIn_of _ (by decide +kernel)) ggX6_set_X6_isBox
set_option maxRecDepth 20000 in
theorem ggX6_set_X3_ballAt : GoodIn wsX6_set wsX3_ballAt := goodIn_r _ [10, 11, 3, 4, 5, 25, 26] (by decide +kernel) (by decide +kernel)
set_option maxRecDepth 20000 in
theorem gX6_set_X3_ballAt : GoodIn wsX6_set (wsV RX6 58 RX3 yX3_ballAt wsX3_ballAt) := goodIn_app (goodIn_of _ (by decide +kernel)) ggX6_set_X3_ballAt
set_option maxRecDepth 20000 in
theorem ggX6_set_X3_place : GoodIn wsX6_set wsX3_place := goodIn_r _ [15, 11, 3, 4, 5, 25, 26] (by decide +kernel) (by decide +kernel)
set_option maxRecDepth 20000 in
theorem gX6_set_X3_place : GoodIn wsX6_set (wsV RX6 62 RX3 yX3_place wsX3_place) := goodIn_app (goodIn_of _ (by decide +kernel)) ggX6_set_X3_place
theorem dX6_set_0 : decode cX6_set 0 = .ok (.iload_n 1, 1) := by decide +kernel
theorem dX6_set_1 : decode cX6_set 1 = .ok (.invokestatic 54, 3) := by decide +kernel
theorem dX6_set_4 : decode cX6_set 4 = .ok (.ifCond .ne 6, 3) := by decide +kernel
theorem dX6_set_7 : decode cX6_set 7 = .ok (.bipush (-2), 2) := by decide +kernel
theorem dX6_set_9 : decode cX6_set 9 = .ok (.ireturn, 1) := by decide +kernel
theorem dX6_set_10 : decode cX6_set 10 = .ok (.iload_n 2, 1) := by decide +kernel
theorem dX6_set_11 : decode cX6_set 11 = .ok (.ifCond .eq 7, 3) := by decide +kernel
theorem dX6_set_14 : decode cX6_set 14 = .ok (.iconst 1, 1) := by decide +kernel
theorem dX6_set_15 : decode cX6_set 15 = .ok (.goto 4, 3) := by decide +kernel
theorem dX6_set_18 : decode cX6_set 18 = .ok (.iconst 0, 1) := by decide +kernel
theorem dX6_set_19 : decode cX6_set 19 = .ok (.istore_n 3, 1) := by decide +kernel
theorem dX6_set_20 : decode cX6_set 20 = .ok (.aload_n 0, 1) := by decide +kernel
theorem dX6_set_21 : decode cX6_set 21 = .ok (.getfield 10, 3) := by decide +kernel
theorem dX6_set_24 : decode cX6_set 24 = .ok (.iload_n 1, 1) := by decide +kernel
theorem dX6_set_25 : decode cX6_set 25 = .ok (.invokevirtual 58, 3) := by decide +kernel
theorem dX6_set_28 : decode cX6_set 28 = .ok (.iload_n 3, 1) := by decide +kernel
theorem dX6_set_29 : decode cX6_set 29 = .ok (.if_icmp .ne 5, 3) := by decide +kernel
theorem dX6_set_32 : decode cX6_set 32 = .ok (.iconst 0, 1) := by decide +kernel
theorem dX6_set_33 : decode cX6_set 33 = .ok (.ireturn, 1) := by decide +kernel
theorem dX6_set_34 : decode cX6_set 34 = .ok (.aload_n 0, 1) := by decide +kernel
theorem dX6_set_35 : decode cX6_set 35 = .ok (.getfield 10, 3) := by decide +kernel
theorem dX6_set_38 : decode cX6_set 38 = .ok (.iload_n 1, 1) := by decide +kernel
theorem dX6_set_39 : decode cX6_set 39 = .ok (.iload_n 3, 1) := by decide +kernel
theorem dX6_set_40 : decode cX6_set 40 = .ok (.invokevirtual 62, 3) := by decide +kernel
theorem dX6_set_43 : decode cX6_set 43 = .ok (.iconst 1, 1) := by decide +kernel
theorem dX6_set_44 : decode cX6_set 44 = .ok (.ireturn, 1) := by decide +kernel
set_option maxRecDepth 20000 in
theorem ggX6_at_X6_isBox : GoodIn wsX6_at wsX6_isBox := goodIn_r _ [5] (by decide +kernel) (by decide +kernel)
set_option maxRecDepth 20000 in
theorem gX6_at_X6_isBox : GoodIn wsX6_at (va_wsS RX6 54 yX6_isBox wsX6_isBox) := goodIn_app (goodIn_of _ (by decide +kernel)) ggX6_at_X6_isBox
set_option maxRecDepth 20000 in
theorem ggX6_at_X3_ballAt : GoodIn wsX6_at wsX3_ballAt := goodIn_r _ [10, 11, 3, 4, 5, 21, 22] (by decide +kernel) (by decide +kernel)
set_option maxRecDepth 20000 in
theorem gX6_at_X3_ballAt : GoodIn wsX6_at (wsV RX6 58 RX3 yX3_ballAt wsX3_ballAt) := goodIn_app (goodIn_of _ (by decide +kernel)) ggX6_at_X3_ballAt
theorem dX6_at_0 : decode cX6_at 0 = .ok (.iload_n 1, 1) := by decide +kernel
theorem dX6_at_1 : decode cX6_at 1 = .ok (.invokestatic 54, 3) := by decide +kernel
theorem dX6_at_4 : decode cX6_at 4 = .ok (.ifCond .eq 14, 3) := by decide +kernel
theorem dX6_at_7 : decode cX6_at 7 = .ok (.aload_n 0, 1) := by decide +kernel
theorem dX6_at_8 : decode cX6_at 8 = .ok (.getfield 10, 3) := by decide +kernel
theorem dX6_at_11 : decode cX6_at 11 = .ok (.iload_n 1, 1) := by decide +kernel
theorem dX6_at_12 : decode cX6_at 12 = .ok (.invokevirtual 58, 3) := by decide +kernel
theorem dX6_at_15 : decode cX6_at 15 = .ok (.goto 5, 3) := by decide +kernel
theorem dX6_at_18 : decode cX6_at 18 = .ok (.bipush (-2), 2) := by decide +kernel
theorem dX6_at_20 : decode cX6_at 20 = .ok (.ireturn, 1) := by decide +kernel
set_option maxRecDepth 20000 in
theorem ggX6_empty_X3_balls : GoodIn wsX6_empty wsX3_balls := goodIn_r _ [6, 7, 21, 22] (by decide +kernel) (by decide +kernel)
set_option maxRecDepth 20000 in
theorem gX6_empty_X3_balls : GoodIn wsX6_empty (wsV RX6 66 RX3 yX3_balls wsX3_balls) := goodIn_app (goodIn_of _ (by decide +kernel)) ggX6_empty_X3_balls
set_option maxRecDepth 20000 in
theorem ggX6_empty_X3_clear : GoodIn wsX6_empty wsX3_clear := goodIn_r _ [11, 7, 21, 22] (by decide +kernel) (by decide +kernel)
set_option maxRecDepth 20000 in
theorem gX6_empty_X3_clear : GoodIn wsX6_empty (wsV RX6 70 RX3 yX3_clear wsX3_clear) := goodIn_app (goodIn_of _ (by decide +kernel)) ggX6_empty_X3_clear
theorem dX6_empty_0 : decode cX6_empty 0 = .ok (.aload_n 0, 1) := by decide +kernel
theorem dX6_empty_1 : decode cX6_empty 1 = .ok (.getfield 10, 3) := by decide +kernel
theorem dX6_empty_4 : decode cX6_empty 4 = .ok (.invokevirtual 66, 3) := by decide +kernel
theorem dX6_empty_7 : decode cX6_empty 7 = .ok (.istore_n 1, 1) := by decide +kernel
theorem dX6_empty_8 : decode cX6_empty 8 = .ok (.aload_n 0, 1) := by decide +kernel
theorem dX6_empty_9 : decode cX6_empty 9 = .ok (.getfield 10, 3) := by decide +kernel
theorem dX6_empty_12 : decode cX6_empty 12 = .ok (.invokevirtual 70, 3) := by decide +kernel
theorem dX6_empty_15 : decode cX6_empty 15 = .ok (.iload_n 1, 1) := by decide +kernel
theorem dX6_empty_16 : decode cX6_empty 16 = .ok (.ireturn, 1) := by decide +kernel
set_option maxRecDepth 20000 in
theorem ggX6_step_X6_isRoom : GoodIn wsX6_step wsX6_isRoom := goodIn_r _ [4] (by decide +kernel) (by decide +kernel)
set_option maxRecDepth 20000 in
theorem gX6_step_X6_isRoom : GoodIn wsX6_step (va_wsS RX6 73 yX6_isRoom wsX6_isRoom) := goodIn_app (goodIn_of _ (by decide +kernel)) ggX6_step_X6_isRoom
set_option maxRecDepth 20000 in
theorem ggX6_step_X6_carry : GoodIn wsX6_step wsX6_carry := goodIn_r _ [8, 9, 10, 11, 12, 13, 14, 15, 16, 17, 18, 19, 20, 21, 3, 22, 23, 24, 25, 26, 27, 28, 29, 30, 31, 32, 33, 34, 35, 36, 37, 38, 39, 40, 41, 42, 43, 44] (by decide +kernel) (by decide +kernel)
set_option maxRecDepth 20000 in
theorem gX6_step_X6_carry : GoodIn wsX6_step (wsV RX6 76 RX6 yX6_carry wsX6_carry) := goodIn_app (goodIn_of _ (by decide +kernel)) ggX6_step_X6_carry
theorem dX6_step_0 : decode cX6_step 0 = .ok (.iload_n 1, 1) := by decide +kernel
theorem dX6_step_1 : decode cX6_step 1 = .ok (.invokestatic 73, 3) := by decide +kernel
theorem dX6_step_4 : decode cX6_step 4 = .ok (.ifCond .eq 12, 3) := by decide +kernel
theorem dX6_step_7 : decode cX6_step 7 = .ok (.aload_n 0, 1) := by decide +kernel
theorem dX6_step_8 : decode cX6_step 8 = .ok (.iload_n 1, 1) := by decide +kernel
theorem dX6_step_9 : decode cX6_step 9 = .ok (.iconst 1, 1) := by decide +kernel
theorem dX6_step_10 : decode cX6_step 10 = .ok (.invokevirtual 76, 3) := by decide +kernel
theorem dX6_step_13 : decode cX6_step 13 = .ok (.goto 5, 3) := by decide +kernel
theorem dX6_step_16 : decode cX6_step 16 = .ok (.bipush (-2), 2) := by decide +kernel
theorem dX6_step_18 : decode cX6_step 18 = .ok (.ireturn, 1) := by decide +kernel
set_option maxRecDepth 20000 in
theorem ggX6_back_X6_isRoom : GoodIn wsX6_back wsX6_isRoom := goodIn_r _ [4] (by decide +kernel) (by decide +kernel)
set_option maxRecDepth 20000 in
theorem gX6_back_X6_isRoom : GoodIn wsX6_back (va_wsS RX6 73 yX6_isRoom wsX6_isRoom) := goodIn_app (goodIn_of _ (by decide +kernel)) ggX6_back_X6_isRoom
set_option maxRecDepth 20000 in
theorem ggX6_back_X6_carry : GoodIn wsX6_back wsX6_carry := goodIn_r _ [8, 9, 10, 11, 12, 13, 14, 15, 16, 17, 18, 19, 20, 21, 3, 22, 23, 24, 25, 26, 27, 28, 29, 30, 31, 32, 33, 34, 35, 36, 37, 38, 39, 40, 41, 42, 43, 44] (by decide +kernel) (by decide +kernel)
set_option maxRecDepth 20000 in
theorem gX6_back_X6_carry : GoodIn wsX6_back (wsV RX6 76 RX6 yX6_carry wsX6_carry) := goodIn_app (goodIn_of _ (by decide +kernel)) ggX6_back_X6_carry
theorem dX6_back_0 : decode cX6_back 0 = .ok (.iload_n 1, 1) := by decide +kernel
theorem dX6_back_1 : decode cX6_back 1 = .ok (.invokestatic 73, 3) := by decide +kernel
theorem dX6_back_4 : decode cX6_back 4 = .ok (.ifCond .eq 12, 3) := by decide +kernel
theorem dX6_back_7 : decode cX6_back 7 = .ok (.aload_n 0, 1) := by decide +kernel
theorem dX6_back_8 : decode cX6_back 8 = .ok (.iload_n 1, 1) := by decide +kernel
theorem dX6_back_9 : decode cX6_back 9 = .ok (.iconst 0, 1) := by decide +kernel
theorem dX6_back_10 : decode cX6_back 10 = .ok (.invokevirtual 76, 3) := by decide +kernel
theorem dX6_back_13 : decode cX6_back 13 = .ok (.goto 5, 3) := by decide +kernel
theorem dX6_back_16 : decode cX6_back 16 = .ok (.bipush (-2), 2) := by decide +kernel
theorem dX6_back_18 : decode cX6_back 18 = .ok (.ireturn, 1) := by decide +kernel
set_option maxRecDepth 20000 in
theorem ggX6_kept_X6_isRoom : GoodIn wsX6_kept wsX6_isRoom := goodIn_r _ [5] (by decide +kernel) (by decide +kernel)
set_option maxRecDepth 20000 in
theorem gX6_kept_X6_isRoom : GoodIn wsX6_kept (va_wsS RX6 73 yX6_isRoom wsX6_isRoom) := goodIn_app (goodIn_of _ (by decide +kernel)) ggX6_kept_X6_isRoom
set_option maxRecDepth 20000 in
theorem ggX6_kept_X3_takenBy : GoodIn wsX6_kept wsX3_takenBy := goodIn_r _ [10, 11, 12, 4, 13, 23, 24] (by decide +kernel) (by decide +kernel)
set_option maxRecDepth 20000 in
theorem gX6_kept_X3_takenBy : GoodIn wsX6_kept (wsV RX6 80 RX3 yX3_takenBy wsX3_takenBy) := goodIn_app (goodIn_of _ (by decide +kernel)) ggX6_kept_X3_takenBy
theorem dX6_kept_0 : decode cX6_kept 0 = .ok (.iload_n 1, 1) := by decide +kernel
theorem dX6_kept_1 : decode cX6_kept 1 = .ok (.invokestatic 73, 3) := by decide +kernel
theorem dX6_kept_4 : decode cX6_kept 4 = .ok (.ifCond .eq 14, 3) := by decide +kernel
theorem dX6_kept_7 : decode cX6_kept 7 = .ok (.aload_n 0, 1) := by decide +kernel
theorem dX6_kept_8 : decode cX6_kept 8 = .ok (.getfield 10, 3) := by decide +kernel
theorem dX6_kept_11 : decode cX6_kept 11 = .ok (.iload_n 1, 1) := by decide +kernel
theorem dX6_kept_12 : decode cX6_kept 12 = .ok (.invokevirtual 80, 3) := by decide +kernel
theorem dX6_kept_15 : decode cX6_kept 15 = .ok (.goto 5, 3) := by decide +kernel
theorem dX6_kept_18 : decode cX6_kept 18 = .ok (.bipush (-2), 2) := by decide +kernel
theorem dX6_kept_20 : decode cX6_kept 20 = .ok (.ireturn, 1) := by decide +kernel
set_option maxRecDepth 20000 in
theorem ggX6_row_X3_balls : GoodIn wsX6_row wsX3_balls := goodIn_r _ [7, 8, 48, 49] (by decide +kernel) (by decide +kernel)
set_option maxRecDepth 20000 in
theorem gX6_row_X3_balls : GoodIn wsX6_row (wsV RX6 66 RX3 yX3_balls wsX3_balls) := goodIn_app (goodIn_of _ (by decide +kernel)) ggX6_row_X3_balls
set_option maxRecDepth 20000 in
theorem ggX6_row_X3_firstBall : GoodIn wsX6_row wsX3_firstBall := goodIn_r _ [12, 8, 48, 49] (by decide +kernel) (by decide +kernel)
set_option maxRecDepth 20000 in
theorem gX6_row_X3_firstBall : GoodIn wsX6_row (wsV RX6 83 RX3 yX3_firstBall wsX3_firstBall) := goodIn_app (goodIn_of _ (by decide +kernel)) ggX6_row_X3_firstBall
set_option maxRecDepth 20000 in
theorem ggX6_row_X3_lastBall : GoodIn wsX6_row wsX3_lastBall := goodIn_r _ [16, 8, 48, 49] (by decide +kernel) (by decide +kernel)
set_option maxRecDepth 20000 in
theorem gX6_row_X3_lastBall : GoodIn wsX6_row (wsV RX6 86 RX3 yX3_lastBall wsX3_lastBall) := goodIn_app (goodIn_of _ (by decide +kernel)) ggX6_row_X3_lastBall
set_option maxRecDepth 20000 in
theorem ggX6_row_X0_heapsOf : GoodIn wsX6_row wsX0_heapsOf := goodIn_r _ [21, 22, 23, 24, 20, 25, 26, 27, 28, 29, 30, 6, 31, 8, 32, 33, 34, 35, 36, 37, 38, 50, 51, 48, 49] (by decide +kernel) (by decide +kernel)
set_option maxRecDepth 20000 in
theorem gX6_row_X0_heapsOf : GoodIn wsX6_row (wsV RX6 89 RX0 yX0_heapsOf wsX0_heapsOf) := goodIn_app (goodIn_of _ (by decide +kernel)) ggX6_row_X0_heapsOf
theorem dX6_row_0 : decode cX6_row 0 = .ok (.iload_n 1, 1) := by decide +kernel
theorem dX6_row_1 : decode cX6_row 1 = .ok (.tableswitch 67 0 3 #[31, 39, 47, 55], 31) := by decide +kernel
theorem dX6_row_32 : decode cX6_row 32 = .ok (.aload_n 0, 1) := by decide +kernel
theorem dX6_row_33 : decode cX6_row 33 = .ok (.getfield 10, 3) := by decide +kernel
theorem dX6_row_36 : decode cX6_row 36 = .ok (.invokevirtual 66, 3) := by decide +kernel
theorem dX6_row_39 : decode cX6_row 39 = .ok (.ireturn, 1) := by decide +kernel
theorem dX6_row_40 : decode cX6_row 40 = .ok (.aload_n 0, 1) := by decide +kernel
theorem dX6_row_41 : decode cX6_row 41 = .ok (.getfield 10, 3) := by decide +kernel
theorem dX6_row_44 : decode cX6_row 44 = .ok (.invokevirtual 83, 3) := by decide +kernel
theorem dX6_row_47 : decode cX6_row 47 = .ok (.ireturn, 1) := by decide +kernel
theorem dX6_row_48 : decode cX6_row 48 = .ok (.aload_n 0, 1) := by decide +kernel
theorem dX6_row_49 : decode cX6_row 49 = .ok (.getfield 10, 3) := by decide +kernel
theorem dX6_row_52 : decode cX6_row 52 = .ok (.invokevirtual 86, 3) := by decide +kernel
theorem dX6_row_55 : decode cX6_row 55 = .ok (.ireturn, 1) := by decide +kernel
theorem dX6_row_56 : decode cX6_row 56 = .ok (.aload_n 0, 1) := by decide +kernel
theorem dX6_row_57 : decode cX6_row 57 = .ok (.getfield 19, 3) := by decide +kernel
theorem dX6_row_60 : decode cX6_row 60 = .ok (.aload_n 0, 1) := by decide +kernel
theorem dX6_row_61 : decode cX6_row 61 = .ok (.getfield 10, 3) := by decide +kernel
theorem dX6_row_64 : decode cX6_row 64 = .ok (.invokevirtual 89, 3) := by decide +kernel
theorem dX6_row_67 : decode cX6_row 67 = .ok (.ireturn, 1) := by decide +kernel
theorem dX6_row_68 : decode cX6_row 68 = .ok (.bipush (-2), 2) := by decide +kernel
theorem dX6_row_70 : decode cX6_row 70 = .ok (.ireturn, 1) := by decide +kernel
set_option maxRecDepth 20000 in
theorem ggX6_heap_X0_countsAbove : GoodIn wsX6_heap wsX0_countsAbove := goodIn_r _ [7, 8, 9, 10, 6, 11, 12, 13, 14, 15, 16, 17, 18, 19, 20, 21, 22, 23, 24, 25, 26, 36, 37, 38, 39] (by decide +kernel) (by decide +kernel)
set_option maxRecDepth 20000 in
theorem gX6_heap_X0_countsAbove : GoodIn wsX6_heap (wsV RX6 93 RX0 yX0_countsAbove wsX0_countsAbove) := goodIn_app (goodIn_of _ (by decide +kernel)) ggX6_heap_X0_countsAbove
theorem dX6_heap_0 : decode cX6_heap 0 = .ok (.iload_n 1, 1) := by decide +kernel
theorem dX6_heap_1 : decode cX6_heap 1 = .ok (.ifCond .ge 6, 3) := by decide +kernel
theorem dX6_heap_4 : decode cX6_heap 4 = .ok (.bipush (-2), 2) := by decide +kernel
theorem dX6_heap_6 : decode cX6_heap 6 = .ok (.ireturn, 1) := by decide +kernel
theorem dX6_heap_7 : decode cX6_heap 7 = .ok (.aload_n 0, 1) := by decide +kernel
theorem dX6_heap_8 : decode cX6_heap 8 = .ok (.getfield 19, 3) := by decide +kernel
theorem dX6_heap_11 : decode cX6_heap 11 = .ok (.aload_n 0, 1) := by decide +kernel
theorem dX6_heap_12 : decode cX6_heap 12 = .ok (.getfield 10, 3) := by decide +kernel
theorem dX6_heap_15 : decode cX6_heap 15 = .ok (.iload_n 1, 1) := by decide +kernel
theorem dX6_heap_16 : decode cX6_heap 16 = .ok (.invokevirtual 93, 3) := by decide +kernel
theorem dX6_heap_19 : decode cX6_heap 19 = .ok (.istore_n 2, 1) := by decide +kernel
theorem dX6_heap_20 : decode cX6_heap 20 = .ok (.iload_n 2, 1) := by decide +kernel
theorem dX6_heap_21 : decode cX6_heap 21 = .ok (.ifCond .le 7, 3) := by decide +kernel
theorem dX6_heap_24 : decode cX6_heap 24 = .ok (.iload_n 2, 1) := by decide +kernel
theorem dX6_heap_25 : decode cX6_heap 25 = .ok (.goto 5, 3) := by decide +kernel
theorem dX6_heap_28 : decode cX6_heap 28 = .ok (.bipush (-2), 2) := by decide +kernel
theorem dX6_heap_30 : decode cX6_heap 30 = .ok (.ireturn, 1) := by decide +kernel
set_option maxRecDepth 20000 in
theorem ggX6_strings_X5_readFrom : GoodIn wsX6_strings wsX5_readFrom := goodIn_r _ [7, 8, 9, 10, 11, 6, 12, 13, 14, 15, 16, 17, 18, 19, 20, 21, 22, 23, 24, 25, 26, 27, 28, 29, 30, 31, 32, 33, 34, 35, 36, 37, 38, 39, 40, 41, 42, 43, 44, 45, 46, 47, 48, 49, 50, 51, 52, 53, 54, 55, 56, 57, 58, 59, 60, 61, 62, 63, 64, 65, 87, 88, 89, 90, 91, 92, 93] (by decide +kernel) (by decide +kernel)
set_option maxRecDepth 20000 in
theorem gX6_strings_X5_readFrom : GoodIn wsX6_strings (wsV RX6 97 RX5 yX5_readFrom wsX5_readFrom) := goodIn_app (goodIn_of _ (by decide +kernel)) ggX6_strings_X5_readFrom
set_option maxRecDepth 20000 in
theorem ggX6_strings_X5_sort : GoodIn wsX6_strings wsX5_sort := goodIn_r _ [69, 13, 70, 71, 72, 6, 73, 46, 47, 48, 49, 28, 42, 43, 44, 45, 38, 39, 40, 41, 29, 74, 75, 76, 77, 87, 88, 89, 90, 91] (by decide +kernel) (by decide +kernel)
set_option maxRecDepth 20000 in
theorem gX6_strings_X5_sort : GoodIn wsX6_strings (wsV RX6 101 RX5 yX5_sort wsX5_sort) := goodIn_app (goodIn_of _ (by decide +kernel)) ggX6_strings_X5_sort
theorem dX6_strings_0 : decode cX6_strings 0 = .ok (.iload_n 1, 1) := by decide +kernel
theorem dX6_strings_1 : decode cX6_strings 1 = .ok (.ifCond .lt 10, 3) := by decide +kernel
theorem dX6_strings_4 : decode cX6_strings 4 = .ok (.iload_n 1, 1) := by decide +kernel
theorem dX6_strings_5 : decode cX6_strings 5 = .ok (.sipush 240, 3) := by decide +kernel
theorem dX6_strings_8 : decode cX6_strings 8 = .ok (.if_icmp .le 6, 3) := by decide +kernel
theorem dX6_strings_11 : decode cX6_strings 11 = .ok (.bipush (-2), 2) := by decide +kernel
theorem dX6_strings_13 : decode cX6_strings 13 = .ok (.ireturn, 1) := by decide +kernel
theorem dX6_strings_14 : decode cX6_strings 14 = .ok (.aload_n 0, 1) := by decide +kernel
theorem dX6_strings_15 : decode cX6_strings 15 = .ok (.getfield 26, 3) := by decide +kernel
theorem dX6_strings_18 : decode cX6_strings 18 = .ok (.aload_n 0, 1) := by decide +kernel
theorem dX6_strings_19 : decode cX6_strings 19 = .ok (.getfield 10, 3) := by decide +kernel
theorem dX6_strings_22 : decode cX6_strings 22 = .ok (.iload_n 1, 1) := by decide +kernel
theorem dX6_strings_23 : decode cX6_strings 23 = .ok (.invokevirtual 97, 3) := by decide +kernel
theorem dX6_strings_26 : decode cX6_strings 26 = .ok (.aload_n 0, 1) := by decide +kernel
theorem dX6_strings_27 : decode cX6_strings 27 = .ok (.getfield 26, 3) := by decide +kernel
theorem dX6_strings_30 : decode cX6_strings 30 = .ok (.invokevirtual 101, 3) := by decide +kernel
theorem dX6_strings_33 : decode cX6_strings 33 = .ok (.aload_n 0, 1) := by decide +kernel
theorem dX6_strings_34 : decode cX6_strings 34 = .ok (.getfield 26, 3) := by decide +kernel
theorem dX6_strings_37 : decode cX6_strings 37 = .ok (.getfield 104, 3) := by decide +kernel
theorem dX6_strings_40 : decode cX6_strings 40 = .ok (.ireturn, 1) := by decide +kernel
set_option maxRecDepth 20000 in
theorem ggX6_string_X5_isString : GoodIn wsX6_string wsX5_isString := goodIn_r _ [6, 7, 33, 34, 35, 36, 37] (by decide +kernel) (by decide +kernel)
set_option maxRecDepth 20000 in
theorem gX6_string_X5_isString : GoodIn wsX6_string (wsV RX6 108 RX5 yX5_isString wsX5_isString) := goodIn_app (goodIn_of _ (by decide +kernel)) ggX6_string_X5_isString
set_option maxRecDepth 20000 in
theorem ggX6_string_X5_lengthOf : GoodIn wsX6_string wsX5_lengthOf := goodIn_r _ [11, 12, 13, 3, 4, 5, 6, 7, 33, 34, 35, 36, 37] (by decide +kernel) (by decide +kernel)
set_option maxRecDepth 20000 in
theorem gX6_string_X5_lengthOf : GoodIn wsX6_string (wsV RX6 111 RX5 yX5_lengthOf wsX5_lengthOf) := goodIn_app (goodIn_of _ (by decide +kernel)) ggX6_string_X5_lengthOf
set_option maxRecDepth 20000 in
theorem ggX6_string_X5_riggingOf : GoodIn wsX6_string wsX5_riggingOf := goodIn_r _ [17, 18, 13, 3, 4, 5, 6, 7, 33, 34, 35, 36, 37] (by decide +kernel) (by decide +kernel)
set_option maxRecDepth 20000 in
theorem gX6_string_X5_riggingOf : GoodIn wsX6_string (wsV RX6 114 RX5 yX5_riggingOf wsX5_riggingOf) := goodIn_app (goodIn_of _ (by decide +kernel)) ggX6_string_X5_riggingOf
set_option maxRecDepth 20000 in
theorem ggX6_string_X5_roomLeft : GoodIn wsX6_string wsX5_roomLeft := goodIn_r _ [22, 23, 33, 34, 35, 36, 37] (by decide +kernel) (by decide +kernel)
set_option maxRecDepth 20000 in
theorem gX6_string_X5_roomLeft : GoodIn wsX6_string (wsV RX6 120 RX5 yX5_roomLeft wsX5_roomLeft) := goodIn_app (goodIn_of _ (by decide +kernel)) ggX6_string_X5_roomLeft
theorem dX6_string_0 : decode cX6_string 0 = .ok (.aload_n 0, 1) := by decide +kernel
theorem dX6_string_1 : decode cX6_string 1 = .ok (.getfield 26, 3) := by decide +kernel
theorem dX6_string_4 : decode cX6_string 4 = .ok (.iload_n 1, 1) := by decide +kernel
theorem dX6_string_5 : decode cX6_string 5 = .ok (.invokevirtual 108, 3) := by decide +kernel
theorem dX6_string_8 : decode cX6_string 8 = .ok (.ifCond .ne 7, 3) := by decide +kernel
theorem dX6_string_11 : decode cX6_string 11 = .ok (.sipush (-1000), 3) := by decide +kernel
theorem dX6_string_14 : decode cX6_string 14 = .ok (.ireturn, 1) := by decide +kernel
theorem dX6_string_15 : decode cX6_string 15 = .ok (.iload_n 2, 1) := by decide +kernel
theorem dX6_string_16 : decode cX6_string 16 = .ok (.tableswitch 69 0 2 #[28, 37, 46], 28) := by decide +kernel
theorem dX6_string_44 : decode cX6_string 44 = .ok (.aload_n 0, 1) := by decide +kernel
theorem dX6_string_45 : decode cX6_string 45 = .ok (.getfield 26, 3) := by decide +kernel
theorem dX6_string_48 : decode cX6_string 48 = .ok (.iload_n 1, 1) := by decide +kernel
theorem dX6_string_49 : decode cX6_string 49 = .ok (.invokevirtual 111, 3) := by decide +kernel
theorem dX6_string_52 : decode cX6_string 52 = .ok (.ireturn, 1) := by decide +kernel
theorem dX6_string_53 : decode cX6_string 53 = .ok (.aload_n 0, 1) := by decide +kernel
theorem dX6_string_54 : decode cX6_string 54 = .ok (.getfield 26, 3) := by decide +kernel
theorem dX6_string_57 : decode cX6_string 57 = .ok (.iload_n 1, 1) := by decide +kernel
theorem dX6_string_58 : decode cX6_string 58 = .ok (.invokevirtual 114, 3) := by decide +kernel
theorem dX6_string_61 : decode cX6_string 61 = .ok (.ireturn, 1) := by decide +kernel
theorem dX6_string_62 : decode cX6_string 62 = .ok (.aload_n 0, 1) := by decide +kernel
theorem dX6_string_63 : decode cX6_string 63 = .ok (.getfield 26, 3) := by decide +kernel
theorem dX6_string_66 : decode cX6_string 66 = .ok (.aload_n 0, 1) := by decide +kernel
theorem dX6_string_67 : decode cX6_string 67 = .ok (.getfield 26, 3) := by decide +kernel
theorem dX6_string_70 : decode cX6_string 70 = .ok (.iload_n 1, 1) := by decide +kernel
theorem dX6_string_71 : decode cX6_string 71 = .ok (.invokevirtual 111, 3) := by decide +kernel
theorem dX6_string_74 : decode cX6_string 74 = .ok (.aload_n 0, 1) := by decide +kernel
theorem dX6_string_75 : decode cX6_string 75 = .ok (.getfield 26, 3) := by decide +kernel
theorem dX6_string_78 : decode cX6_string 78 = .ok (.getfield 117, 3) := by decide +kernel
theorem dX6_string_81 : decode cX6_string 81 = .ok (.invokevirtual 120, 3) := by decide +kernel
theorem dX6_string_84 : decode cX6_string 84 = .ok (.ireturn, 1) := by decide +kernel
theorem dX6_string_85 : decode cX6_string 85 = .ok (.sipush (-1000), 3) := by decide +kernel
theorem dX6_string_88 : decode cX6_string 88 = .ok (.ireturn, 1) := by decide +kernel
set_option maxRecDepth 20000 in
theorem ggX6_leap_X6_isRoom : GoodIn wsX6_leap wsX6_isRoom := goodIn_r _ [7] (by decide +kernel) (by decide +kernel)
set_option maxRecDepth 20000 in
theorem gX6_leap_X6_isRoom : GoodIn wsX6_leap (va_wsS RX6 73 yX6_isRoom wsX6_isRoom) := goodIn_app (goodIn_of _ (by decide +kernel)) ggX6_leap_X6_isRoom
set_option maxRecDepth 20000 in
theorem ggX6_leap_X5_readFrom : GoodIn wsX6_leap wsX5_readFrom := goodIn_r _ [12, 13, 14, 15, 16, 11, 17, 18, 19, 20, 21, 22, 23, 24, 25, 26, 6, 27, 28, 29, 30, 31, 32, 33, 34, 35, 36, 37, 38, 39, 40, 41, 42, 43, 44, 45, 46, 47, 48, 49, 50, 51, 52, 53, 54, 55, 56, 57, 58, 59, 60, 61, 62, 63, 64, 65, 66, 67, 68, 69, 119, 120, 121, 122, 123, 124, 125] (by decide +kernel) (by decide +kernel)
set_option maxRecDepth 20000 in
theorem gX6_leap_X5_readFrom : GoodIn wsX6_leap (wsV RX6 97 RX5 yX5_readFrom wsX5_readFrom) := goodIn_app (goodIn_of _ (by decide +kernel)) ggX6_leap_X5_readFrom
set_option maxRecDepth 20000 in
theorem ggX6_leap_X5_addToRiggings : GoodIn wsX6_leap wsX5_addToRiggings := goodIn_r _ [73, 18, 33, 32, 74, 75, 68, 76, 119, 120, 121, 122, 123] (by decide +kernel) (by decide +kernel)
set_option maxRecDepth 20000 in
theorem gX6_leap_X5_addToRiggings : GoodIn wsX6_leap (wsV RX6 124 RX5 yX5_addToRiggings wsX5_addToRiggings) := goodIn_app (goodIn_of _ (by decide +kernel)) ggX6_leap_X5_addToRiggings
set_option maxRecDepth 20000 in
theorem ggX6_leap_X5_haveRoomBehind : GoodIn wsX6_leap wsX5_haveRoomBehind := goodIn_r _ [80, 18, 33, 32, 54, 55, 56, 11, 57, 19, 119, 120, 121, 122, 123] (by decide +kernel) (by decide +kernel)
set_option maxRecDepth 20000 in
theorem gX6_leap_X5_haveRoomBehind : GoodIn wsX6_leap (wsV RX6 127 RX5 yX5_haveRoomBehind wsX5_haveRoomBehind) := goodIn_app (goodIn_of _ (by decide +kernel)) ggX6_leap_X5_haveRoomBehind
set_option maxRecDepth 20000 in
theorem ggX6_leap_X5_makeInto : GoodIn wsX6_leap wsX5_makeInto := goodIn_r _ [84, 18, 85, 86, 87, 11, 88, 32, 33, 89, 90, 91, 92, 38, 39, 40, 41, 42, 43, 44, 45, 46, 47, 48, 49, 50, 51, 52, 53, 54, 55, 56, 57, 19, 62, 63, 64, 65, 66, 67, 68, 69, 93, 94, 95, 96, 97, 98, 99, 100, 101, 102, 103, 23, 104, 105, 26, 6, 27, 119, 120, 121, 122, 123, 124, 125] (by decide +kernel) (by decide +kernel)
set_option maxRecDepth 20000 in
theorem gX6_leap_X5_makeInto : GoodIn wsX6_leap (wsV RX6 130 RX5 yX5_makeInto wsX5_makeInto) := goodIn_app (goodIn_of _ (by decide +kernel)) ggX6_leap_X5_makeInto
set_option maxRecDepth 20000 in
theorem ggX6_leap_X3_becomeMade : GoodIn wsX6_leap wsX3_becomeMade := goodIn_r _ [109, 25, 105, 124, 125] (by decide +kernel) (by decide +kernel)
set_option maxRecDepth 20000 in
theorem gX6_leap_X3_becomeMade : GoodIn wsX6_leap (wsV RX6 137 RX3 yX3_becomeMade wsX3_becomeMade) := goodIn_app (goodIn_of _ (by decide +kernel)) ggX6_leap_X3_becomeMade
theorem dX6_leap_0 : decode cX6_leap 0 = .ok (.iload_n 1, 1) := by decide +kernel
theorem dX6_leap_1 : decode cX6_leap 1 = .ok (.invokestatic 73, 3) := by decide +kernel
theorem dX6_leap_4 : decode cX6_leap 4 = .ok (.ifCond .eq 17, 3) := by decide +kernel
theorem dX6_leap_7 : decode cX6_leap 7 = .ok (.iload_n 2, 1) := by decide +kernel
theorem dX6_leap_8 : decode cX6_leap 8 = .ok (.sipush (-1000), 3) := by decide +kernel
theorem dX6_leap_11 : decode cX6_leap 11 = .ok (.if_icmp .lt 10, 3) := by decide +kernel
theorem dX6_leap_14 : decode cX6_leap 14 = .ok (.iload_n 2, 1) := by decide +kernel
theorem dX6_leap_15 : decode cX6_leap 15 = .ok (.sipush 1000, 3) := by decide +kernel
theorem dX6_leap_18 : decode cX6_leap 18 = .ok (.if_icmp .le 6, 3) := by decide +kernel
theorem dX6_leap_21 : decode cX6_leap 21 = .ok (.bipush (-2), 2) := by decide +kernel
theorem dX6_leap_23 : decode cX6_leap 23 = .ok (.ireturn, 1) := by decide +kernel
theorem dX6_leap_24 : decode cX6_leap 24 = .ok (.aload_n 0, 1) := by decide +kernel
theorem dX6_leap_25 : decode cX6_leap 25 = .ok (.getfield 30, 3) := by decide +kernel
theorem dX6_leap_28 : decode cX6_leap 28 = .ok (.aload_n 0, 1) := by decide +kernel
theorem dX6_leap_29 : decode cX6_leap 29 = .ok (.getfield 10, 3) := by decide +kernel
theorem dX6_leap_32 : decode cX6_leap 32 = .ok (.sipush 240, 3) := by decide +kernel
theorem dX6_leap_35 : decode cX6_leap 35 = .ok (.invokevirtual 97, 3) := by decide +kernel
theorem dX6_leap_38 : decode cX6_leap 38 = .ok (.aload_n 0, 1) := by decide +kernel
theorem dX6_leap_39 : decode cX6_leap 39 = .ok (.getfield 30, 3) := by decide +kernel
theorem dX6_leap_42 : decode cX6_leap 42 = .ok (.iload_n 1, 1) := by decide +kernel
theorem dX6_leap_43 : decode cX6_leap 43 = .ok (.iload_n 2, 1) := by decide +kernel
theorem dX6_leap_44 : decode cX6_leap 44 = .ok (.invokevirtual 124, 3) := by decide +kernel
theorem dX6_leap_47 : decode cX6_leap 47 = .ok (.aload_n 0, 1) := by decide +kernel
theorem dX6_leap_48 : decode cX6_leap 48 = .ok (.getfield 30, 3) := by decide +kernel
theorem dX6_leap_51 : decode cX6_leap 51 = .ok (.sipush 240, 3) := by decide +kernel
theorem dX6_leap_54 : decode cX6_leap 54 = .ok (.invokevirtual 127, 3) := by decide +kernel
theorem dX6_leap_57 : decode cX6_leap 57 = .ok (.ifCond .eq 17, 3) := by decide +kernel
theorem dX6_leap_60 : decode cX6_leap 60 = .ok (.aload_n 0, 1) := by decide +kernel
theorem dX6_leap_61 : decode cX6_leap 61 = .ok (.getfield 30, 3) := by decide +kernel
theorem dX6_leap_64 : decode cX6_leap 64 = .ok (.aload_n 0, 1) := by decide +kernel
theorem dX6_leap_65 : decode cX6_leap 65 = .ok (.getfield 10, 3) := by decide +kernel
theorem dX6_leap_68 : decode cX6_leap 68 = .ok (.invokevirtual 130, 3) := by decide +kernel
theorem dX6_leap_71 : decode cX6_leap 71 = .ok (.ifCond .ne 6, 3) := by decide +kernel
theorem dX6_leap_74 : decode cX6_leap 74 = .ok (.bipush (-4), 2) := by decide +kernel
theorem dX6_leap_76 : decode cX6_leap 76 = .ok (.ireturn, 1) := by decide +kernel
theorem dX6_leap_77 : decode cX6_leap 77 = .ok (.aload_n 0, 1) := by decide +kernel
theorem dX6_leap_78 : decode cX6_leap 78 = .ok (.dup, 1) := by decide +kernel
theorem dX6_leap_79 : decode cX6_leap 79 = .ok (.getfield 134, 3) := by decide +kernel
theorem dX6_leap_82 : decode cX6_leap 82 = .ok (.iconst 1, 1) := by decide +kernel
theorem dX6_leap_83 : decode cX6_leap 83 = .ok (.iadd, 1) := by decide +kernel
theorem dX6_leap_84 : decode cX6_leap 84 = .ok (.putfield 134, 3) := by decide +kernel
theorem dX6_leap_87 : decode cX6_leap 87 = .ok (.aload_n 0, 1) := by decide +kernel
theorem dX6_leap_88 : decode cX6_leap 88 = .ok (.getfield 10, 3) := by decide +kernel
theorem dX6_leap_91 : decode cX6_leap 91 = .ok (.invokevirtual 137, 3) := by decide +kernel
theorem dX6_leap_94 : decode cX6_leap 94 = .ok (.ireturn, 1) := by decide +kernel
set_option maxRecDepth 20000 in
theorem ggX6_ring_X6_isBox : GoodIn wsX6_ring wsX6_isBox := goodIn_r _ [6] (by decide +kernel) (by decide +kernel)
set_option maxRecDepth 20000 in
theorem gX6_ring_X6_isBox : GoodIn wsX6_ring (va_wsS RX6 54 yX6_isBox wsX6_isBox) := goodIn_app (goodIn_of _ (by decide +kernel)) ggX6_ring_X6_isBox
set_option maxRecDepth 20000 in
theorem ggX6_ring_X3_bits : GoodIn wsX6_ring wsX3_bits := goodIn_r _ [11, 12, 13, 14, 10, 15, 16, 4, 5, 6, 43, 44] (by decide +kernel) (by decide +kernel)
set_option maxRecDepth 20000 in
theorem gX6_ring_X3_bits : GoodIn wsX6_ring (wsV RX6 140 RX3 yX3_bits wsX3_bits) := goodIn_app (goodIn_of _ (by decide +kernel)) ggX6_ring_X3_bits
set_option maxRecDepth 20000 in
theorem ggX6_ring_J13_bitCount_95d88 : GoodIn wsX6_ring wsJ13_bitCount_95d88 := goodIn_r _ [20, 21, 22, 23] (by decide +kernel) (by decide +kernel)
set_option maxRecDepth 20000 in
theorem gX6_ring_J13_bitCount_95d88 : GoodIn wsX6_ring (va_wsS RX6 144 yJ13_bitCount_95d88 wsJ13_bitCount_95d88) := goodIn_app (goodIn_of _ (by decide +kernel)) ggX6_ring_J13_bitCount_95d88
set_option maxRecDepth 20000 in
theorem ggX6_ring_X6_isFewerThanHalf : GoodIn wsX6_ring wsX6_isFewerThanHalf := goodIn_r _ [26] (by decide +kernel) (by decide +kernel)
set_option maxRecDepth 20000 in
theorem gX6_ring_X6_isFewerThanHalf : GoodIn wsX6_ring (va_wsS RX6 150 yX6_isFewerThanHalf wsX6_isFewerThanHalf) := goodIn_app (goodIn_of _ (by decide +kernel)) ggX6_ring_X6_isFewerThanHalf
set_option maxRecDepth 20000 in
theorem ggX6_ring_X1_become : GoodIn wsX6_ring wsX1_become := goodIn_r _ [31, 32, 33, 45, 46, 47, 48] (by decide +kernel) (by decide +kernel)
set_option maxRecDepth 20000 in
theorem gX6_ring_X1_become : GoodIn wsX6_ring (wsV RX6 154 RX1 yX1_become wsX1_become) := goodIn_app (goodIn_of _ (by decide +kernel)) ggX6_ring_X1_become
theorem dX6_ring_0 : decode cX6_ring 0 = .ok (.iload_n 1, 1) := by decide +kernel
theorem dX6_ring_1 : decode cX6_ring 1 = .ok (.invokestatic 54, 3) := by decide +kernel
theorem dX6_ring_4 : decode cX6_ring 4 = .ok (.ifCond .eq 23, 3) := by decide +kernel
theorem dX6_ring_7 : decode cX6_ring 7 = .ok (.iload_n 2, 1) := by decide +kernel
theorem dX6_ring_8 : decode cX6_ring 8 = .ok (.iconst 1, 1) := by decide +kernel
theorem dX6_ring_9 : decode cX6_ring 9 = .ok (.if_icmp .lt 18, 3) := by decide +kernel
theorem dX6_ring_12 : decode cX6_ring 12 = .ok (.iload_n 2, 1) := by decide +kernel
theorem dX6_ring_13 : decode cX6_ring 13 = .ok (.bipush 40, 2) := by decide +kernel
theorem dX6_ring_15 : decode cX6_ring 15 = .ok (.if_icmp .gt 12, 3) := by decide +kernel
theorem dX6_ring_18 : decode cX6_ring 18 = .ok (.iload_n 1, 1) := by decide +kernel
theorem dX6_ring_19 : decode cX6_ring 19 = .ok (.iload_n 2, 1) := by decide +kernel
theorem dX6_ring_20 : decode cX6_ring 20 = .ok (.iadd, 1) := by decide +kernel
theorem dX6_ring_21 : decode cX6_ring 21 = .ok (.sipush 240, 3) := by decide +kernel
theorem dX6_ring_24 : decode cX6_ring 24 = .ok (.if_icmp .le 6, 3) := by decide +kernel
theorem dX6_ring_27 : decode cX6_ring 27 = .ok (.bipush (-2), 2) := by decide +kernel
theorem dX6_ring_29 : decode cX6_ring 29 = .ok (.ireturn, 1) := by decide +kernel
theorem dX6_ring_30 : decode cX6_ring 30 = .ok (.aload_n 0, 1) := by decide +kernel
theorem dX6_ring_31 : decode cX6_ring 31 = .ok (.getfield 10, 3) := by decide +kernel
theorem dX6_ring_34 : decode cX6_ring 34 = .ok (.iload_n 1, 1) := by decide +kernel
theorem dX6_ring_35 : decode cX6_ring 35 = .ok (.iload_n 2, 1) := by decide +kernel
theorem dX6_ring_36 : decode cX6_ring 36 = .ok (.invokevirtual 140, 3) := by decide +kernel
theorem dX6_ring_39 : decode cX6_ring 39 = .ok (.lstore_n 3, 1) := by decide +kernel
theorem dX6_ring_40 : decode cX6_ring 40 = .ok (.lload_n 3, 1) := by decide +kernel
theorem dX6_ring_41 : decode cX6_ring 41 = .ok (.invokestatic 144, 3) := by decide +kernel
theorem dX6_ring_44 : decode cX6_ring 44 = .ok (.istore 5, 2) := by decide +kernel
theorem dX6_ring_46 : decode cX6_ring 46 = .ok (.iload 5, 2) := by decide +kernel
theorem dX6_ring_48 : decode cX6_ring 48 = .ok (.iload_n 2, 1) := by decide +kernel
theorem dX6_ring_49 : decode cX6_ring 49 = .ok (.invokestatic 150, 3) := by decide +kernel
theorem dX6_ring_52 : decode cX6_ring 52 = .ok (.ifCond .ne 6, 3) := by decide +kernel
theorem dX6_ring_55 : decode cX6_ring 55 = .ok (.bipush (-3), 2) := by decide +kernel
theorem dX6_ring_57 : decode cX6_ring 57 = .ok (.ireturn, 1) := by decide +kernel
theorem dX6_ring_58 : decode cX6_ring 58 = .ok (.aload_n 0, 1) := by decide +kernel
theorem dX6_ring_59 : decode cX6_ring 59 = .ok (.getfield 36, 3) := by decide +kernel
theorem dX6_ring_62 : decode cX6_ring 62 = .ok (.iload_n 2, 1) := by decide +kernel
theorem dX6_ring_63 : decode cX6_ring 63 = .ok (.lload_n 3, 1) := by decide +kernel
theorem dX6_ring_64 : decode cX6_ring 64 = .ok (.invokevirtual 154, 3) := by decide +kernel
theorem dX6_ring_67 : decode cX6_ring 67 = .ok (.iload 5, 2) := by decide +kernel
theorem dX6_ring_69 : decode cX6_ring 69 = .ok (.ireturn, 1) := by decide +kernel
set_option maxRecDepth 20000 in
theorem ggX6_ringAt_X1_isRingBox : GoodIn wsX6_ringAt wsX1_isRingBox := goodIn_r _ [6, 7, 22, 23, 24, 25] (by decide +kernel) (by decide +kernel)
set_option maxRecDepth 20000 in
theorem gX6_ringAt_X1_isRingBox : GoodIn wsX6_ringAt (wsV RX6 158 RX1 yX1_isRingBox wsX1_isRingBox) := goodIn_app (goodIn_of _ (by decide +kernel)) ggX6_ringAt_X1_isRingBox
set_option maxRecDepth 20000 in
theorem ggX6_ringAt_X1_ballAt : GoodIn wsX6_ringAt wsX1_ballAt := goodIn_r _ [11, 12, 22, 23, 24, 25] (by decide +kernel) (by decide +kernel)
set_option maxRecDepth 20000 in
theorem gX6_ringAt_X1_ballAt : GoodIn wsX6_ringAt (wsV RX6 161 RX1 yX1_ballAt wsX1_ballAt) := goodIn_app (goodIn_of _ (by decide +kernel)) ggX6_ringAt_X1_ballAt
theorem dX6_ringAt_0 : decode cX6_ringAt 0 = .ok (.aload_n 0, 1) := by decide +kernel
theorem dX6_ringAt_1 : decode cX6_ringAt 1 = .ok (.getfield 36, 3) := by decide +kernel
theorem dX6_ringAt_4 : decode cX6_ringAt 4 = .ok (.iload_n 1, 1) := by decide +kernel
theorem dX6_ringAt_5 : decode cX6_ringAt 5 = .ok (.invokevirtual 158, 3) := by decide +kernel
theorem dX6_ringAt_8 : decode cX6_ringAt 8 = .ok (.ifCond .eq 14, 3) := by decide +kernel
theorem dX6_ringAt_11 : decode cX6_ringAt 11 = .ok (.aload_n 0, 1) := by decide +kernel
theorem dX6_ringAt_12 : decode cX6_ringAt 12 = .ok (.getfield 36, 3) := by decide +kernel
theorem dX6_ringAt_15 : decode cX6_ringAt 15 = .ok (.iload_n 1, 1) := by decide +kernel
theorem dX6_ringAt_16 : decode cX6_ringAt 16 = .ok (.invokevirtual 161, 3) := by decide +kernel
theorem dX6_ringAt_19 : decode cX6_ringAt 19 = .ok (.goto 5, 3) := by decide +kernel
theorem dX6_ringAt_22 : decode cX6_ringAt 22 = .ok (.bipush (-2), 2) := by decide +kernel
theorem dX6_ringAt_24 : decode cX6_ringAt 24 = .ok (.ireturn, 1) := by decide +kernel
set_option maxRecDepth 20000 in
theorem ggX6_turn_X6_isRoom : GoodIn wsX6_turn wsX6_isRoom := goodIn_r _ [5] (by decide +kernel) (by decide +kernel)
set_option maxRecDepth 20000 in
theorem gX6_turn_X6_isRoom : GoodIn wsX6_turn (va_wsS RX6 73 yX6_isRoom wsX6_isRoom) := goodIn_app (goodIn_of _ (by decide +kernel)) ggX6_turn_X6_isRoom
set_option maxRecDepth 20000 in
theorem ggX6_turn_X1_turnBy : GoodIn wsX6_turn wsX1_turnBy := goodIn_r _ [10, 11, 12, 13, 14, 15, 16, 9, 17, 18, 19, 20, 21, 22, 23, 4, 24, 34, 35, 36, 37] (by decide +kernel) (by decide +kernel)
set_option maxRecDepth 20000 in
theorem gX6_turn_X1_turnBy : GoodIn wsX6_turn (wsV RX6 162 RX1 yX1_turnBy wsX1_turnBy) := goodIn_app (goodIn_of _ (by decide +kernel)) ggX6_turn_X1_turnBy
theorem dX6_turn_0 : decode cX6_turn 0 = .ok (.iload_n 1, 1) := by decide +kernel
theorem dX6_turn_1 : decode cX6_turn 1 = .ok (.invokestatic 73, 3) := by decide +kernel
theorem dX6_turn_4 : decode cX6_turn 4 = .ok (.ifCond .eq 14, 3) := by decide +kernel
theorem dX6_turn_7 : decode cX6_turn 7 = .ok (.aload_n 0, 1) := by decide +kernel
theorem dX6_turn_8 : decode cX6_turn 8 = .ok (.getfield 36, 3) := by decide +kernel
theorem dX6_turn_11 : decode cX6_turn 11 = .ok (.iload_n 1, 1) := by decide +kernel
theorem dX6_turn_12 : decode cX6_turn 12 = .ok (.invokevirtual 162, 3) := by decide +kernel
theorem dX6_turn_15 : decode cX6_turn 15 = .ok (.goto 5, 3) := by decide +kernel
theorem dX6_turn_18 : decode cX6_turn 18 = .ok (.bipush (-2), 2) := by decide +kernel
theorem dX6_turn_20 : decode cX6_turn 20 = .ok (.ireturn, 1) := by decide +kernel
set_option maxRecDepth 20000 in
theorem ggX6_period_X6_isRoom : GoodIn wsX6_period wsX6_isRoom := goodIn_r _ [6] (by decide +kernel) (by decide +kernel)
set_option maxRecDepth 20000 in
theorem gX6_period_X6_isRoom : GoodIn wsX6_period (va_wsS RX6 73 yX6_isRoom wsX6_isRoom) := goodIn_app (goodIn_of _ (by decide +kernel)) ggX6_period_X6_isRoom
set_option maxRecDepth 20000 in
theorem ggX6_period_X2_periodOf : GoodIn wsX6_period wsX2_periodOf := goodIn_r _ [11, 12, 13, 14, 15, 16, 17, 18, 19, 20, 21, 22, 23, 24, 25, 26, 27, 28, 29, 30, 31, 32, 33, 34, 5, 35, 45, 46, 47, 48, 49, 50] (by decide +kernel) (by decide +kernel)
set_option maxRecDepth 20000 in
theorem gX6_period_X2_periodOf : GoodIn wsX6_period (wsV RX6 165 RX2 yX2_periodOf wsX2_periodOf) := goodIn_app (goodIn_of _ (by decide +kernel)) ggX6_period_X2_periodOf
theorem dX6_period_0 : decode cX6_period 0 = .ok (.iload_n 1, 1) := by decide +kernel
theorem dX6_period_1 : decode cX6_period 1 = .ok (.invokestatic 73, 3) := by decide +kernel
theorem dX6_period_4 : decode cX6_period 4 = .ok (.ifCond .eq 18, 3) := by decide +kernel
theorem dX6_period_7 : decode cX6_period 7 = .ok (.aload_n 0, 1) := by decide +kernel
theorem dX6_period_8 : decode cX6_period 8 = .ok (.getfield 43, 3) := by decide +kernel
theorem dX6_period_11 : decode cX6_period 11 = .ok (.aload_n 0, 1) := by decide +kernel
theorem dX6_period_12 : decode cX6_period 12 = .ok (.getfield 36, 3) := by decide +kernel
theorem dX6_period_15 : decode cX6_period 15 = .ok (.iload_n 1, 1) := by decide +kernel
theorem dX6_period_16 : decode cX6_period 16 = .ok (.invokevirtual 165, 3) := by decide +kernel
theorem dX6_period_19 : decode cX6_period 19 = .ok (.goto 5, 3) := by decide +kernel
theorem dX6_period_22 : decode cX6_period 22 = .ok (.bipush (-2), 2) := by decide +kernel
theorem dX6_period_24 : decode cX6_period 24 = .ok (.ireturn, 1) := by decide +kernel
set_option maxRecDepth 20000 in
theorem ggX6_rings_X6_isFewerThanHalf : GoodIn wsX6_rings wsX6_isFewerThanHalf := goodIn_r _ [5] (by decide +kernel) (by decide +kernel)
set_option maxRecDepth 20000 in
theorem gX6_rings_X6_isFewerThanHalf : GoodIn wsX6_rings (va_wsS RX6 150 yX6_isFewerThanHalf wsX6_isFewerThanHalf) := goodIn_app (goodIn_of _ (by decide +kernel)) ggX6_rings_X6_isFewerThanHalf
set_option maxRecDepth 20000 in
theorem ggX6_rings_X6_isRoom : GoodIn wsX6_rings wsX6_isRoom := goodIn_r _ [8] (by decide +kernel) (by decide +kernel)
set_option maxRecDepth 20000 in
theorem gX6_rings_X6_isRoom : GoodIn wsX6_rings (va_wsS RX6 73 yX6_isRoom wsX6_isRoom) := goodIn_app (goodIn_of _ (by decide +kernel)) ggX6_rings_X6_isRoom
set_option maxRecDepth 20000 in
theorem ggX6_rings_X2_countAll : GoodIn wsX6_rings wsX2_countAll := goodIn_r _ [13, 14, 15, 16, 17, 18, 19, 20] (by decide +kernel) (by decide +kernel)
set_option maxRecDepth 20000 in
theorem gX6_rings_X2_countAll : GoodIn wsX6_rings (wsV RX6 169 RX2 yX2_countAll wsX2_countAll) := goodIn_app (goodIn_of _ (by decide +kernel)) ggX6_rings_X2_countAll
set_option maxRecDepth 20000 in
theorem ggX6_rings_X2_countWithPeriod : GoodIn wsX6_rings wsX2_countWithPeriod := goodIn_r _ [24, 25, 26, 27, 12, 28, 29, 14, 15, 16, 17, 18, 19, 20, 30, 31, 32, 33, 34, 35, 36, 37, 38, 39, 40, 41, 42, 43, 44, 45, 46, 47, 48, 49, 50, 51, 52, 53, 54, 55, 56, 57, 58, 59, 60, 4, 61, 62, 63, 64, 65, 75, 76, 77, 78, 79, 80] (by decide +kernel) (by decide +kernel)
set_option maxRecDepth 20000 in
theorem gX6_rings_X2_countWithPeriod : GoodIn wsX6_rings (wsV RX6 172 RX2 yX2_countWithPeriod wsX2_countWithPeriod) := goodIn_app (goodIn_of _ (by decide +kernel)) ggX6_rings_X2_countWithPeriod
theorem dX6_rings_0 : decode cX6_rings 0 = .ok (.iload_n 1, 1) := by decide +kernel
theorem dX6_rings_1 : decode cX6_rings 1 = .ok (.iconst 1, 1) := by decide +kernel
theorem dX6_rings_2 : decode cX6_rings 2 = .ok (.if_icmp .lt 26, 3) := by decide +kernel
theorem dX6_rings_5 : decode cX6_rings 5 = .ok (.iload_n 1, 1) := by decide +kernel
theorem dX6_rings_6 : decode cX6_rings 6 = .ok (.bipush 12, 2) := by decide +kernel
theorem dX6_rings_8 : decode cX6_rings 8 = .ok (.if_icmp .gt 20, 3) := by decide +kernel
theorem dX6_rings_11 : decode cX6_rings 11 = .ok (.iload_n 2, 1) := by decide +kernel
theorem dX6_rings_12 : decode cX6_rings 12 = .ok (.ifCond .lt 16, 3) := by decide +kernel
theorem dX6_rings_15 : decode cX6_rings 15 = .ok (.iload_n 2, 1) := by decide +kernel
theorem dX6_rings_16 : decode cX6_rings 16 = .ok (.iload_n 1, 1) := by decide +kernel
theorem dX6_rings_17 : decode cX6_rings 17 = .ok (.if_icmp .gt 11, 3) := by decide +kernel
theorem dX6_rings_20 : decode cX6_rings 20 = .ok (.iload_n 2, 1) := by decide +kernel
theorem dX6_rings_21 : decode cX6_rings 21 = .ok (.iload_n 1, 1) := by decide +kernel
theorem dX6_rings_22 : decode cX6_rings 22 = .ok (.invokestatic 150, 3) := by decide +kernel
theorem dX6_rings_25 : decode cX6_rings 25 = .ok (.ifCond .ne 6, 3) := by decide +kernel
theorem dX6_rings_28 : decode cX6_rings 28 = .ok (.bipush (-2), 2) := by decide +kernel
theorem dX6_rings_30 : decode cX6_rings 30 = .ok (.ireturn, 1) := by decide +kernel
theorem dX6_rings_31 : decode cX6_rings 31 = .ok (.iload_n 3, 1) := by decide +kernel
theorem dX6_rings_32 : decode cX6_rings 32 = .ok (.invokestatic 73, 3) := by decide +kernel
theorem dX6_rings_35 : decode cX6_rings 35 = .ok (.ifCond .eq 8, 3) := by decide +kernel
theorem dX6_rings_38 : decode cX6_rings 38 = .ok (.iload 4, 2) := by decide +kernel
theorem dX6_rings_40 : decode cX6_rings 40 = .ok (.ifCond .ge 6, 3) := by decide +kernel
theorem dX6_rings_43 : decode cX6_rings 43 = .ok (.bipush (-2), 2) := by decide +kernel
theorem dX6_rings_45 : decode cX6_rings 45 = .ok (.ireturn, 1) := by decide +kernel
theorem dX6_rings_46 : decode cX6_rings 46 = .ok (.iload 4, 2) := by decide +kernel
end
section
theorem dX6_rings_48 : decode cX6_rings 48 = .ok (.ifCond .ne 15, 3) := by decide +kernel
theorem dX6_rings_51 : decode cX6_rings 51 = .ok (.aload_n 0, 1) := by decide +kernel
theorem dX6_rings_52 : decode cX6_rings 52 = .ok (.getfield 43, 3) := by decide +kernel
theorem dX6_rings_55 : decode cX6_rings 55 = .ok (.iload_n 1, 1) := by decide +kernel
theorem dX6_rings_56 : decode cX6_rings 56 = .ok (.iload_n 2, 1) := by decide +kernel
theorem dX6_rings_57 : decode cX6_rings 57 = .ok (.invokevirtual 169, 3) := by decide +kernel
theorem dX6_rings_60 : decode cX6_rings 60 = .ok (.goto 15, 3) := by decide +kernel
theorem dX6_rings_63 : decode cX6_rings 63 = .ok (.aload_n 0, 1) := by decide +kernel
theorem dX6_rings_64 : decode cX6_rings 64 = .ok (.getfield 43, 3) := by decide +kernel
theorem dX6_rings_67 : decode cX6_rings 67 = .ok (.iload_n 1, 1) := by decide +kernel
theorem dX6_rings_68 : decode cX6_rings 68 = .ok (.iload_n 2, 1) := by decide +kernel
theorem dX6_rings_69 : decode cX6_rings 69 = .ok (.iload_n 3, 1) := by decide +kernel
theorem dX6_rings_70 : decode cX6_rings 70 = .ok (.iload 4, 2) := by decide +kernel
theorem dX6_rings_72 : decode cX6_rings 72 = .ok (.invokevirtual 172, 3) := by decide +kernel
theorem dX6_rings_75 : decode cX6_rings 75 = .ok (.ireturn, 1) := by decide +kernel
set_option maxRecDepth 20000 in
theorem ggX6_sheet_X6_sheetOf : GoodIn wsX6_sheet wsX6_sheetOf := goodIn_r _ [5, 6, 24, 25, 26, 27, 28, 29, 30, 31, 32] (by decide +kernel) (by decide +kernel)
set_option maxRecDepth 20000 in
theorem gX6_sheet_X6_sheetOf : GoodIn wsX6_sheet (wsV RX6 176 RX6 yX6_sheetOf wsX6_sheetOf) := goodIn_app (goodIn_of _ (by decide +kernel)) ggX6_sheet_X6_sheetOf
set_option maxRecDepth 20000 in
theorem ggX6_sheet_X6_isForm : GoodIn wsX6_sheet wsX6_isForm := goodIn_r _ [9] (by decide +kernel) (by decide +kernel)
set_option maxRecDepth 20000 in
theorem gX6_sheet_X6_isForm : GoodIn wsX6_sheet (va_wsS RX6 180 yX6_isForm wsX6_isForm) := goodIn_app (goodIn_of _ (by decide +kernel)) ggX6_sheet_X6_isForm
set_option maxRecDepth 20000 in
theorem ggX6_sheet_X6_find : GoodIn wsX6_sheet wsX6_find := goodIn_r _ [13, 14, 24, 25, 26, 27, 28, 29, 30, 31, 32] (by decide +kernel) (by decide +kernel)
set_option maxRecDepth 20000 in
theorem gX6_sheet_X6_find : GoodIn wsX6_sheet (wsV RX6 183 RX6 yX6_find wsX6_find) := goodIn_app (goodIn_of _ (by decide +kernel)) ggX6_sheet_X6_find
set_option maxRecDepth 20000 in
theorem ggX6_sheet_X4_begin : GoodIn wsX6_sheet wsX4_begin := goodIn_r _ [19, 20, 21, 22, 23, 33, 34, 35, 36] (by decide +kernel) (by decide +kernel)
set_option maxRecDepth 20000 in
theorem gX6_sheet_X4_begin : GoodIn wsX6_sheet (wsV RX6 186 RX4 yX4_begin wsX4_begin) := goodIn_app (goodIn_of _ (by decide +kernel)) ggX6_sheet_X4_begin
theorem dX6_sheet_0 : decode cX6_sheet 0 = .ok (.aload_n 0, 1) := by decide +kernel
theorem dX6_sheet_1 : decode cX6_sheet 1 = .ok (.iload_n 1, 1) := by decide +kernel
theorem dX6_sheet_2 : decode cX6_sheet 2 = .ok (.invokevirtual 176, 3) := by decide +kernel
theorem dX6_sheet_5 : decode cX6_sheet 5 = .ok (.astore 4, 2) := by decide +kernel
theorem dX6_sheet_7 : decode cX6_sheet 7 = .ok (.aload 4, 2) := by decide +kernel
theorem dX6_sheet_9 : decode cX6_sheet 9 = .ok (.ifnull 16, 3) := by decide +kernel
theorem dX6_sheet_12 : decode cX6_sheet 12 = .ok (.iload_n 2, 1) := by decide +kernel
theorem dX6_sheet_13 : decode cX6_sheet 13 = .ok (.invokestatic 180, 3) := by decide +kernel
theorem dX6_sheet_16 : decode cX6_sheet 16 = .ok (.ifCond .eq 9, 3) := by decide +kernel
theorem dX6_sheet_19 : decode cX6_sheet 19 = .ok (.iload_n 3, 1) := by decide +kernel
theorem dX6_sheet_20 : decode cX6_sheet 20 = .ok (.bipush 100, 2) := by decide +kernel
theorem dX6_sheet_22 : decode cX6_sheet 22 = .ok (.if_icmp .le 6, 3) := by decide +kernel
theorem dX6_sheet_25 : decode cX6_sheet 25 = .ok (.bipush (-2), 2) := by decide +kernel
theorem dX6_sheet_27 : decode cX6_sheet 27 = .ok (.ireturn, 1) := by decide +kernel
theorem dX6_sheet_28 : decode cX6_sheet 28 = .ok (.iload_n 3, 1) := by decide +kernel
theorem dX6_sheet_29 : decode cX6_sheet 29 = .ok (.ifCond .ge 9, 3) := by decide +kernel
theorem dX6_sheet_32 : decode cX6_sheet 32 = .ok (.aload_n 0, 1) := by decide +kernel
theorem dX6_sheet_33 : decode cX6_sheet 33 = .ok (.iconst 5, 1) := by decide +kernel
theorem dX6_sheet_34 : decode cX6_sheet 34 = .ok (.invokevirtual 183, 3) := by decide +kernel
theorem dX6_sheet_37 : decode cX6_sheet 37 = .ok (.ireturn, 1) := by decide +kernel
theorem dX6_sheet_38 : decode cX6_sheet 38 = .ok (.aload 4, 2) := by decide +kernel
theorem dX6_sheet_40 : decode cX6_sheet 40 = .ok (.iload_n 2, 1) := by decide +kernel
theorem dX6_sheet_41 : decode cX6_sheet 41 = .ok (.iload_n 3, 1) := by decide +kernel
theorem dX6_sheet_42 : decode cX6_sheet 42 = .ok (.invokevirtual 186, 3) := by decide +kernel
theorem dX6_sheet_45 : decode cX6_sheet 45 = .ok (.iload_n 3, 1) := by decide +kernel
theorem dX6_sheet_46 : decode cX6_sheet 46 = .ok (.ireturn, 1) := by decide +kernel
set_option maxRecDepth 20000 in
theorem ggX6_lose_X6_sheetOf : GoodIn wsX6_lose wsX6_sheetOf := goodIn_r _ [5, 6, 16, 17, 18, 19, 20, 21, 22, 23, 24] (by decide +kernel) (by decide +kernel)
set_option maxRecDepth 20000 in
theorem gX6_lose_X6_sheetOf : GoodIn wsX6_lose (wsV RX6 176 RX6 yX6_sheetOf wsX6_sheetOf) := goodIn_app (goodIn_of _ (by decide +kernel)) ggX6_lose_X6_sheetOf
set_option maxRecDepth 20000 in
theorem ggX6_lose_X6_find : GoodIn wsX6_lose wsX6_find := goodIn_r _ [10, 11, 16, 17, 18, 19, 20, 21, 22, 23, 24] (by decide +kernel) (by decide +kernel)
set_option maxRecDepth 20000 in
theorem gX6_lose_X6_find : GoodIn wsX6_lose (wsV RX6 183 RX6 yX6_find wsX6_find) := goodIn_app (goodIn_of _ (by decide +kernel)) ggX6_lose_X6_find
theorem dX6_lose_0 : decode cX6_lose 0 = .ok (.aload_n 0, 1) := by decide +kernel
theorem dX6_lose_1 : decode cX6_lose 1 = .ok (.iload_n 1, 1) := by decide +kernel
theorem dX6_lose_2 : decode cX6_lose 2 = .ok (.invokevirtual 176, 3) := by decide +kernel
theorem dX6_lose_5 : decode cX6_lose 5 = .ok (.astore_n 2, 1) := by decide +kernel
theorem dX6_lose_6 : decode cX6_lose 6 = .ok (.aload_n 2, 1) := by decide +kernel
theorem dX6_lose_7 : decode cX6_lose 7 = .ok (.ifnonnull 6, 3) := by decide +kernel
theorem dX6_lose_10 : decode cX6_lose 10 = .ok (.bipush (-2), 2) := by decide +kernel
theorem dX6_lose_12 : decode cX6_lose 12 = .ok (.ireturn, 1) := by decide +kernel
theorem dX6_lose_13 : decode cX6_lose 13 = .ok (.aload_n 2, 1) := by decide +kernel
theorem dX6_lose_14 : decode cX6_lose 14 = .ok (.getfield 189, 3) := by decide +kernel
theorem dX6_lose_17 : decode cX6_lose 17 = .ok (.ifCond .eq 9, 3) := by decide +kernel
theorem dX6_lose_20 : decode cX6_lose 20 = .ok (.aload_n 0, 1) := by decide +kernel
theorem dX6_lose_21 : decode cX6_lose 21 = .ok (.iconst 1, 1) := by decide +kernel
theorem dX6_lose_22 : decode cX6_lose 22 = .ok (.invokevirtual 183, 3) := by decide +kernel
theorem dX6_lose_25 : decode cX6_lose 25 = .ok (.ireturn, 1) := by decide +kernel
theorem dX6_lose_26 : decode cX6_lose 26 = .ok (.aload_n 2, 1) := by decide +kernel
theorem dX6_lose_27 : decode cX6_lose 27 = .ok (.iconst 1, 1) := by decide +kernel
theorem dX6_lose_28 : decode cX6_lose 28 = .ok (.putfield 189, 3) := by decide +kernel
theorem dX6_lose_31 : decode cX6_lose 31 = .ok (.aload_n 2, 1) := by decide +kernel
theorem dX6_lose_32 : decode cX6_lose 32 = .ok (.getfield 193, 3) := by decide +kernel
theorem dX6_lose_35 : decode cX6_lose 35 = .ok (.ireturn, 1) := by decide +kernel
set_option maxRecDepth 20000 in
theorem ggX6_put_X6_sheetOf : GoodIn wsX6_put wsX6_sheetOf := goodIn_r _ [5, 6, 36, 37, 38, 39, 40, 41, 42, 43, 44] (by decide +kernel) (by decide +kernel)
set_option maxRecDepth 20000 in
theorem gX6_put_X6_sheetOf : GoodIn wsX6_put (wsV RX6 176 RX6 yX6_sheetOf wsX6_sheetOf) := goodIn_app (goodIn_of _ (by decide +kernel)) ggX6_put_X6_sheetOf
set_option maxRecDepth 20000 in
theorem ggX6_put_X6_isForm : GoodIn wsX6_put wsX6_isForm := goodIn_r _ [9] (by decide +kernel) (by decide +kernel)
set_option maxRecDepth 20000 in
theorem gX6_put_X6_isForm : GoodIn wsX6_put (va_wsS RX6 180 yX6_isForm wsX6_isForm) := goodIn_app (goodIn_of _ (by decide +kernel)) ggX6_put_X6_isForm
set_option maxRecDepth 20000 in
theorem ggX6_put_X4_findingAt : GoodIn wsX6_put wsX4_findingAt := goodIn_r _ [14, 15, 16, 17, 18, 19, 13, 20, 21, 45, 46, 47, 48] (by decide +kernel) (by decide +kernel)
set_option maxRecDepth 20000 in
theorem gX6_put_X4_findingAt : GoodIn wsX6_put (wsV RX6 194 RX4 yX4_findingAt wsX4_findingAt) := goodIn_app (goodIn_of _ (by decide +kernel)) ggX6_put_X4_findingAt
set_option maxRecDepth 20000 in
theorem ggX6_put_X6_find : GoodIn wsX6_put wsX6_find := goodIn_r _ [25, 26, 36, 37, 38, 39, 40, 41, 42, 43, 44] (by decide +kernel) (by decide +kernel)
set_option maxRecDepth 20000 in
theorem gX6_put_X6_find : GoodIn wsX6_put (wsV RX6 183 RX6 yX6_find wsX6_find) := goodIn_app (goodIn_of _ (by decide +kernel)) ggX6_put_X6_find
set_option maxRecDepth 20000 in
theorem ggX6_put_X4_place : GoodIn wsX6_put wsX4_place := goodIn_r _ [30, 31, 17, 18, 19, 13, 20, 21, 32, 33, 34, 35, 16, 45, 46, 47, 48] (by decide +kernel) (by decide +kernel)
set_option maxRecDepth 20000 in
theorem gX6_put_X4_place : GoodIn wsX6_put (wsV RX6 197 RX4 yX4_place wsX4_place) := goodIn_app (goodIn_of _ (by decide +kernel)) ggX6_put_X4_place
theorem dX6_put_0 : decode cX6_put 0 = .ok (.aload_n 0, 1) := by decide +kernel
theorem dX6_put_1 : decode cX6_put 1 = .ok (.iload_n 1, 1) := by decide +kernel
theorem dX6_put_2 : decode cX6_put 2 = .ok (.invokevirtual 176, 3) := by decide +kernel
theorem dX6_put_5 : decode cX6_put 5 = .ok (.astore 5, 2) := by decide +kernel
theorem dX6_put_7 : decode cX6_put 7 = .ok (.aload 5, 2) := by decide +kernel
theorem dX6_put_9 : decode cX6_put 9 = .ok (.ifnull 10, 3) := by decide +kernel
theorem dX6_put_12 : decode cX6_put 12 = .ok (.iload_n 2, 1) := by decide +kernel
theorem dX6_put_13 : decode cX6_put 13 = .ok (.invokestatic 180, 3) := by decide +kernel
theorem dX6_put_16 : decode cX6_put 16 = .ok (.ifCond .ne 6, 3) := by decide +kernel
theorem dX6_put_19 : decode cX6_put 19 = .ok (.bipush (-2), 2) := by decide +kernel
theorem dX6_put_21 : decode cX6_put 21 = .ok (.ireturn, 1) := by decide +kernel
theorem dX6_put_22 : decode cX6_put 22 = .ok (.aload 5, 2) := by decide +kernel
theorem dX6_put_24 : decode cX6_put 24 = .ok (.iload_n 2, 1) := by decide +kernel
theorem dX6_put_25 : decode cX6_put 25 = .ok (.iload_n 3, 1) := by decide +kernel
theorem dX6_put_26 : decode cX6_put 26 = .ok (.invokevirtual 194, 3) := by decide +kernel
theorem dX6_put_29 : decode cX6_put 29 = .ok (.istore 6, 2) := by decide +kernel
theorem dX6_put_31 : decode cX6_put 31 = .ok (.iload 6, 2) := by decide +kernel
theorem dX6_put_33 : decode cX6_put 33 = .ok (.ifCond .eq 10, 3) := by decide +kernel
theorem dX6_put_36 : decode cX6_put 36 = .ok (.aload_n 0, 1) := by decide +kernel
theorem dX6_put_37 : decode cX6_put 37 = .ok (.iload 6, 2) := by decide +kernel
theorem dX6_put_39 : decode cX6_put 39 = .ok (.invokevirtual 183, 3) := by decide +kernel
theorem dX6_put_42 : decode cX6_put 42 = .ok (.ireturn, 1) := by decide +kernel
theorem dX6_put_43 : decode cX6_put 43 = .ok (.aload 5, 2) := by decide +kernel
theorem dX6_put_45 : decode cX6_put 45 = .ok (.iload_n 3, 1) := by decide +kernel
theorem dX6_put_46 : decode cX6_put 46 = .ok (.iload 4, 2) := by decide +kernel
theorem dX6_put_48 : decode cX6_put 48 = .ok (.invokevirtual 197, 3) := by decide +kernel
theorem dX6_put_51 : decode cX6_put 51 = .ok (.iconst 1, 1) := by decide +kernel
theorem dX6_put_52 : decode cX6_put 52 = .ok (.ireturn, 1) := by decide +kernel
set_option maxRecDepth 20000 in
theorem ggX6_get_X6_sheetOf : GoodIn wsX6_get wsX6_sheetOf := goodIn_r _ [6, 7, 33, 34, 35, 36, 37, 38, 39, 40, 41] (by decide +kernel) (by decide +kernel)
set_option maxRecDepth 20000 in
theorem gX6_get_X6_sheetOf : GoodIn wsX6_get (wsV RX6 176 RX6 yX6_sheetOf wsX6_sheetOf) := goodIn_app (goodIn_of _ (by decide +kernel)) ggX6_get_X6_sheetOf
set_option maxRecDepth 20000 in
theorem ggX6_get_X6_isForm : GoodIn wsX6_get wsX6_isForm := goodIn_r _ [10] (by decide +kernel) (by decide +kernel)
set_option maxRecDepth 20000 in
theorem gX6_get_X6_isForm : GoodIn wsX6_get (va_wsS RX6 180 yX6_isForm wsX6_isForm) := goodIn_app (goodIn_of _ (by decide +kernel)) ggX6_get_X6_isForm
set_option maxRecDepth 20000 in
theorem ggX6_get_X4_findingAt : GoodIn wsX6_get wsX4_findingAt := goodIn_r _ [15, 16, 17, 18, 19, 20, 14, 21, 22, 42, 43, 44, 45] (by decide +kernel) (by decide +kernel)
set_option maxRecDepth 20000 in
theorem gX6_get_X4_findingAt : GoodIn wsX6_get (wsV RX6 194 RX4 yX4_findingAt wsX4_findingAt) := goodIn_app (goodIn_of _ (by decide +kernel)) ggX6_get_X4_findingAt
set_option maxRecDepth 20000 in
theorem ggX6_get_X6_find : GoodIn wsX6_get wsX6_find := goodIn_r _ [26, 27, 33, 34, 35, 36, 37, 38, 39, 40, 41] (by decide +kernel) (by decide +kernel)
set_option maxRecDepth 20000 in
theorem gX6_get_X6_find : GoodIn wsX6_get (wsV RX6 183 RX6 yX6_find wsX6_find) := goodIn_app (goodIn_of _ (by decide +kernel)) ggX6_get_X6_find
set_option maxRecDepth 20000 in
theorem ggX6_get_X4_itemAt : GoodIn wsX6_get wsX4_itemAt := goodIn_r _ [31, 32, 18, 19, 20, 14, 21, 22, 42, 43, 44, 45] (by decide +kernel) (by decide +kernel)
set_option maxRecDepth 20000 in
theorem gX6_get_X4_itemAt : GoodIn wsX6_get (wsV RX6 199 RX4 yX4_itemAt wsX4_itemAt) := goodIn_app (goodIn_of _ (by decide +kernel)) ggX6_get_X4_itemAt
theorem dX6_get_0 : decode cX6_get 0 = .ok (.aload_n 0, 1) := by decide +kernel
theorem dX6_get_1 : decode cX6_get 1 = .ok (.iload_n 1, 1) := by decide +kernel
theorem dX6_get_2 : decode cX6_get 2 = .ok (.invokevirtual 176, 3) := by decide +kernel
theorem dX6_get_5 : decode cX6_get 5 = .ok (.astore 4, 2) := by decide +kernel
theorem dX6_get_7 : decode cX6_get 7 = .ok (.aload 4, 2) := by decide +kernel
theorem dX6_get_9 : decode cX6_get 9 = .ok (.ifnull 10, 3) := by decide +kernel
theorem dX6_get_12 : decode cX6_get 12 = .ok (.iload_n 2, 1) := by decide +kernel
theorem dX6_get_13 : decode cX6_get 13 = .ok (.invokestatic 180, 3) := by decide +kernel
theorem dX6_get_16 : decode cX6_get 16 = .ok (.ifCond .ne 6, 3) := by decide +kernel
theorem dX6_get_19 : decode cX6_get 19 = .ok (.ldc 198, 2) := by decide +kernel
theorem dX6_get_21 : decode cX6_get 21 = .ok (.ireturn, 1) := by decide +kernel
theorem dX6_get_22 : decode cX6_get 22 = .ok (.aload 4, 2) := by decide +kernel
theorem dX6_get_24 : decode cX6_get 24 = .ok (.iload_n 2, 1) := by decide +kernel
theorem dX6_get_25 : decode cX6_get 25 = .ok (.iload_n 3, 1) := by decide +kernel
theorem dX6_get_26 : decode cX6_get 26 = .ok (.invokevirtual 194, 3) := by decide +kernel
theorem dX6_get_29 : decode cX6_get 29 = .ok (.istore 5, 2) := by decide +kernel
theorem dX6_get_31 : decode cX6_get 31 = .ok (.iload 5, 2) := by decide +kernel
theorem dX6_get_33 : decode cX6_get 33 = .ok (.ifCond .eq 13, 3) := by decide +kernel
theorem dX6_get_36 : decode cX6_get 36 = .ok (.aload_n 0, 1) := by decide +kernel
theorem dX6_get_37 : decode cX6_get 37 = .ok (.iload 5, 2) := by decide +kernel
theorem dX6_get_39 : decode cX6_get 39 = .ok (.invokevirtual 183, 3) := by decide +kernel
theorem dX6_get_42 : decode cX6_get 42 = .ok (.pop, 1) := by decide +kernel
theorem dX6_get_43 : decode cX6_get 43 = .ok (.ldc 198, 2) := by decide +kernel
theorem dX6_get_45 : decode cX6_get 45 = .ok (.ireturn, 1) := by decide +kernel
theorem dX6_get_46 : decode cX6_get 46 = .ok (.aload 4, 2) := by decide +kernel
theorem dX6_get_48 : decode cX6_get 48 = .ok (.iload_n 3, 1) := by decide +kernel
theorem dX6_get_49 : decode cX6_get 49 = .ok (.invokevirtual 199, 3) := by decide +kernel
theorem dX6_get_52 : decode cX6_get 52 = .ok (.ireturn, 1) := by decide +kernel
set_option maxRecDepth 20000 in
theorem ggX6_copy_X6_sheetOf : GoodIn wsX6_copy wsX6_sheetOf := goodIn_r _ [9, 10, 26, 27, 28, 29, 30, 31, 32, 33, 34] (by decide +kernel) (by decide +kernel)
set_option maxRecDepth 20000 in
theorem gX6_copy_X6_sheetOf : GoodIn wsX6_copy (wsV RX6 176 RX6 yX6_sheetOf wsX6_sheetOf) := goodIn_app (goodIn_of _ (by decide +kernel)) ggX6_copy_X6_sheetOf
set_option maxRecDepth 20000 in
theorem ggX6_copy_X6_find : GoodIn wsX6_copy wsX6_find := goodIn_r _ [14, 15, 26, 27, 28, 29, 30, 31, 32, 33, 34] (by decide +kernel) (by decide +kernel)
set_option maxRecDepth 20000 in
theorem gX6_copy_X6_find : GoodIn wsX6_copy (wsV RX6 183 RX6 yX6_find wsX6_find) := goodIn_app (goodIn_of _ (by decide +kernel)) ggX6_copy_X6_find
set_option maxRecDepth 20000 in
theorem ggX6_copy_X4_hasItems : GoodIn wsX6_copy wsX4_hasItems := goodIn_r _ [20, 21, 22, 23, 24, 25] (by decide +kernel) (by decide +kernel)
set_option maxRecDepth 20000 in
theorem gX6_copy_X4_hasItems : GoodIn wsX6_copy (wsV RX6 205 RX4 yX4_hasItems wsX4_hasItems) := goodIn_app (goodIn_of _ (by decide +kernel)) ggX6_copy_X4_hasItems
theorem dX6_copy_0 : decode cX6_copy 0 = .ok (.aload_n 0, 1) := by decide +kernel
theorem dX6_copy_1 : decode cX6_copy 1 = .ok (.iload_n 1, 1) := by decide +kernel
theorem dX6_copy_2 : decode cX6_copy 2 = .ok (.invokevirtual 176, 3) := by decide +kernel
theorem dX6_copy_5 : decode cX6_copy 5 = .ok (.astore 6, 2) := by decide +kernel
theorem dX6_copy_7 : decode cX6_copy 7 = .ok (.aload_n 0, 1) := by decide +kernel
theorem dX6_copy_8 : decode cX6_copy 8 = .ok (.iload_n 3, 1) := by decide +kernel
theorem dX6_copy_9 : decode cX6_copy 9 = .ok (.invokevirtual 176, 3) := by decide +kernel
theorem dX6_copy_12 : decode cX6_copy 12 = .ok (.astore 7, 2) := by decide +kernel
theorem dX6_copy_14 : decode cX6_copy 14 = .ok (.aload 6, 2) := by decide +kernel
theorem dX6_copy_16 : decode cX6_copy 16 = .ok (.ifnull 8, 3) := by decide +kernel
theorem dX6_copy_19 : decode cX6_copy 19 = .ok (.aload 7, 2) := by decide +kernel
theorem dX6_copy_21 : decode cX6_copy 21 = .ok (.ifnonnull 6, 3) := by decide +kernel
theorem dX6_copy_24 : decode cX6_copy 24 = .ok (.bipush (-2), 2) := by decide +kernel
theorem dX6_copy_26 : decode cX6_copy 26 = .ok (.ireturn, 1) := by decide +kernel
theorem dX6_copy_27 : decode cX6_copy 27 = .ok (.aload 6, 2) := by decide +kernel
theorem dX6_copy_29 : decode cX6_copy 29 = .ok (.getfield 189, 3) := by decide +kernel
theorem dX6_copy_32 : decode cX6_copy 32 = .ok (.ifCond .ne 11, 3) := by decide +kernel
theorem dX6_copy_35 : decode cX6_copy 35 = .ok (.aload 7, 2) := by decide +kernel
theorem dX6_copy_37 : decode cX6_copy 37 = .ok (.getfield 189, 3) := by decide +kernel
theorem dX6_copy_40 : decode cX6_copy 40 = .ok (.ifCond .eq 9, 3) := by decide +kernel
theorem dX6_copy_43 : decode cX6_copy 43 = .ok (.aload_n 0, 1) := by decide +kernel
theorem dX6_copy_44 : decode cX6_copy 44 = .ok (.iconst 1, 1) := by decide +kernel
theorem dX6_copy_45 : decode cX6_copy 45 = .ok (.invokevirtual 183, 3) := by decide +kernel
theorem dX6_copy_48 : decode cX6_copy 48 = .ok (.ireturn, 1) := by decide +kernel
theorem dX6_copy_49 : decode cX6_copy 49 = .ok (.aload 6, 2) := by decide +kernel
theorem dX6_copy_51 : decode cX6_copy 51 = .ok (.getfield 202, 3) := by decide +kernel
theorem dX6_copy_54 : decode cX6_copy 54 = .ok (.aload 7, 2) := by decide +kernel
theorem dX6_copy_56 : decode cX6_copy 56 = .ok (.getfield 202, 3) := by decide +kernel
theorem dX6_copy_59 : decode cX6_copy 59 = .ok (.if_icmp .eq 9, 3) := by decide +kernel
theorem dX6_copy_62 : decode cX6_copy 62 = .ok (.aload_n 0, 1) := by decide +kernel
theorem dX6_copy_63 : decode cX6_copy 63 = .ok (.iconst 4, 1) := by decide +kernel
theorem dX6_copy_64 : decode cX6_copy 64 = .ok (.invokevirtual 183, 3) := by decide +kernel
theorem dX6_copy_67 : decode cX6_copy 67 = .ok (.ireturn, 1) := by decide +kernel
theorem dX6_copy_68 : decode cX6_copy 68 = .ok (.aload 6, 2) := by decide +kernel
theorem dX6_copy_70 : decode cX6_copy 70 = .ok (.iload_n 2, 1) := by decide +kernel
theorem dX6_copy_71 : decode cX6_copy 71 = .ok (.iload 5, 2) := by decide +kernel
theorem dX6_copy_73 : decode cX6_copy 73 = .ok (.invokevirtual 205, 3) := by decide +kernel
theorem dX6_copy_76 : decode cX6_copy 76 = .ok (.ifCond .eq 15, 3) := by decide +kernel
theorem dX6_copy_79 : decode cX6_copy 79 = .ok (.aload 7, 2) := by decide +kernel
theorem dX6_copy_81 : decode cX6_copy 81 = .ok (.iload 4, 2) := by decide +kernel
theorem dX6_copy_83 : decode cX6_copy 83 = .ok (.iload 5, 2) := by decide +kernel
theorem dX6_copy_85 : decode cX6_copy 85 = .ok (.invokevirtual 205, 3) := by decide +kernel
theorem dX6_copy_88 : decode cX6_copy 88 = .ok (.ifCond .ne 9, 3) := by decide +kernel
theorem dX6_copy_91 : decode cX6_copy 91 = .ok (.aload_n 0, 1) := by decide +kernel
theorem dX6_copy_92 : decode cX6_copy 92 = .ok (.iconst 2, 1) := by decide +kernel
theorem dX6_copy_93 : decode cX6_copy 93 = .ok (.invokevirtual 183, 3) := by decide +kernel
theorem dX6_copy_96 : decode cX6_copy 96 = .ok (.ireturn, 1) := by decide +kernel
theorem dX6_copy_97 : decode cX6_copy 97 = .ok (.aload 6, 2) := by decide +kernel
theorem dX6_copy_99 : decode cX6_copy 99 = .ok (.getfield 208, 3) := by decide +kernel
theorem dX6_copy_102 : decode cX6_copy 102 = .ok (.iload_n 2, 1) := by decide +kernel
theorem dX6_copy_103 : decode cX6_copy 103 = .ok (.aload 7, 2) := by decide +kernel
theorem dX6_copy_105 : decode cX6_copy 105 = .ok (.getfield 208, 3) := by decide +kernel
theorem dX6_copy_108 : decode cX6_copy 108 = .ok (.iload 4, 2) := by decide +kernel
theorem dX6_copy_110 : decode cX6_copy 110 = .ok (.iload 5, 2) := by decide +kernel
theorem dX6_copy_112 : decode cX6_copy 112 = .ok (.invokestatic 212, 3) := by decide +kernel
theorem dX6_copy_115 : decode cX6_copy 115 = .ok (.iconst 1, 1) := by decide +kernel
theorem dX6_copy_116 : decode cX6_copy 116 = .ok (.ireturn, 1) := by decide +kernel
set_option maxRecDepth 20000 in
theorem ggX6_load_X6_sheetOf : GoodIn wsX6_load wsX6_sheetOf := goodIn_r _ [6, 7, 37, 38, 39, 40, 41, 42, 43, 44, 45] (by decide +kernel) (by decide +kernel)
set_option maxRecDepth 20000 in
theorem gX6_load_X6_sheetOf : GoodIn wsX6_load (wsV RX6 176 RX6 yX6_sheetOf wsX6_sheetOf) := goodIn_app (goodIn_of _ (by decide +kernel)) ggX6_load_X6_sheetOf
set_option maxRecDepth 20000 in
theorem ggX6_load_X6_isBox : GoodIn wsX6_load wsX6_isBox := goodIn_r _ [10] (by decide +kernel) (by decide +kernel)
set_option maxRecDepth 20000 in
theorem gX6_load_X6_isBox : GoodIn wsX6_load (va_wsS RX6 54 yX6_isBox wsX6_isBox) := goodIn_app (goodIn_of _ (by decide +kernel)) ggX6_load_X6_isBox
set_option maxRecDepth 20000 in
theorem ggX6_load_X6_find : GoodIn wsX6_load wsX6_find := goodIn_r _ [14, 15, 37, 38, 39, 40, 41, 42, 43, 44, 45] (by decide +kernel) (by decide +kernel)
set_option maxRecDepth 20000 in
theorem gX6_load_X6_find : GoodIn wsX6_load (wsV RX6 183 RX6 yX6_find wsX6_find) := goodIn_app (goodIn_of _ (by decide +kernel)) ggX6_load_X6_find
set_option maxRecDepth 20000 in
theorem ggX6_load_X4_itemAt : GoodIn wsX6_load wsX4_itemAt := goodIn_r _ [20, 21, 22, 23, 24, 19, 25, 26, 33, 34, 35, 36] (by decide +kernel) (by decide +kernel)
set_option maxRecDepth 20000 in
theorem gX6_load_X4_itemAt : GoodIn wsX6_load (wsV RX6 199 RX4 yX4_itemAt wsX4_itemAt) := goodIn_app (goodIn_of _ (by decide +kernel)) ggX6_load_X4_itemAt
set_option maxRecDepth 20000 in
theorem ggX6_load_X3_place : GoodIn wsX6_load wsX3_place := goodIn_r _ [31, 32, 9, 5, 10, 46, 47] (by decide +kernel) (by decide +kernel)
set_option maxRecDepth 20000 in
theorem gX6_load_X3_place : GoodIn wsX6_load (wsV RX6 62 RX3 yX3_place wsX3_place) := goodIn_app (goodIn_of _ (by decide +kernel)) ggX6_load_X3_place
theorem dX6_load_0 : decode cX6_load 0 = .ok (.aload_n 0, 1) := by decide +kernel
theorem dX6_load_1 : decode cX6_load 1 = .ok (.iload_n 1, 1) := by decide +kernel
theorem dX6_load_2 : decode cX6_load 2 = .ok (.invokevirtual 176, 3) := by decide +kernel
theorem dX6_load_5 : decode cX6_load 5 = .ok (.astore_n 3, 1) := by decide +kernel
theorem dX6_load_6 : decode cX6_load 6 = .ok (.aload_n 3, 1) := by decide +kernel
theorem dX6_load_7 : decode cX6_load 7 = .ok (.ifnull 10, 3) := by decide +kernel
theorem dX6_load_10 : decode cX6_load 10 = .ok (.iload_n 2, 1) := by decide +kernel
theorem dX6_load_11 : decode cX6_load 11 = .ok (.invokestatic 54, 3) := by decide +kernel
theorem dX6_load_14 : decode cX6_load 14 = .ok (.ifCond .ne 6, 3) := by decide +kernel
theorem dX6_load_17 : decode cX6_load 17 = .ok (.bipush (-2), 2) := by decide +kernel
theorem dX6_load_19 : decode cX6_load 19 = .ok (.ireturn, 1) := by decide +kernel
theorem dX6_load_20 : decode cX6_load 20 = .ok (.aload_n 3, 1) := by decide +kernel
theorem dX6_load_21 : decode cX6_load 21 = .ok (.getfield 189, 3) := by decide +kernel
theorem dX6_load_24 : decode cX6_load 24 = .ok (.ifCond .eq 9, 3) := by decide +kernel
theorem dX6_load_27 : decode cX6_load 27 = .ok (.aload_n 0, 1) := by decide +kernel
theorem dX6_load_28 : decode cX6_load 28 = .ok (.iconst 1, 1) := by decide +kernel
theorem dX6_load_29 : decode cX6_load 29 = .ok (.invokevirtual 183, 3) := by decide +kernel
theorem dX6_load_32 : decode cX6_load 32 = .ok (.ireturn, 1) := by decide +kernel
theorem dX6_load_33 : decode cX6_load 33 = .ok (.iload_n 2, 1) := by decide +kernel
theorem dX6_load_34 : decode cX6_load 34 = .ok (.aload_n 3, 1) := by decide +kernel
theorem dX6_load_35 : decode cX6_load 35 = .ok (.getfield 193, 3) := by decide +kernel
theorem dX6_load_38 : decode cX6_load 38 = .ok (.iadd, 1) := by decide +kernel
theorem dX6_load_39 : decode cX6_load 39 = .ok (.sipush 240, 3) := by decide +kernel
theorem dX6_load_42 : decode cX6_load 42 = .ok (.if_icmp .le 9, 3) := by decide +kernel
theorem dX6_load_45 : decode cX6_load 45 = .ok (.aload_n 0, 1) := by decide +kernel
theorem dX6_load_46 : decode cX6_load 46 = .ok (.iconst 2, 1) := by decide +kernel
theorem dX6_load_47 : decode cX6_load 47 = .ok (.invokevirtual 183, 3) := by decide +kernel
theorem dX6_load_50 : decode cX6_load 50 = .ok (.ireturn, 1) := by decide +kernel
theorem dX6_load_51 : decode cX6_load 51 = .ok (.iconst 0, 1) := by decide +kernel
theorem dX6_load_52 : decode cX6_load 52 = .ok (.istore 4, 2) := by decide +kernel
theorem dX6_load_54 : decode cX6_load 54 = .ok (.iload 4, 2) := by decide +kernel
theorem dX6_load_56 : decode cX6_load 56 = .ok (.aload_n 3, 1) := by decide +kernel
theorem dX6_load_57 : decode cX6_load 57 = .ok (.getfield 193, 3) := by decide +kernel
theorem dX6_load_60 : decode cX6_load 60 = .ok (.if_icmp .ge 34, 3) := by decide +kernel
theorem dX6_load_63 : decode cX6_load 63 = .ok (.aload_n 0, 1) := by decide +kernel
theorem dX6_load_64 : decode cX6_load 64 = .ok (.getfield 10, 3) := by decide +kernel
theorem dX6_load_67 : decode cX6_load 67 = .ok (.iload_n 2, 1) := by decide +kernel
theorem dX6_load_68 : decode cX6_load 68 = .ok (.iload 4, 2) := by decide +kernel
theorem dX6_load_70 : decode cX6_load 70 = .ok (.iadd, 1) := by decide +kernel
theorem dX6_load_71 : decode cX6_load 71 = .ok (.aload_n 3, 1) := by decide +kernel
theorem dX6_load_72 : decode cX6_load 72 = .ok (.iload 4, 2) := by decide +kernel
theorem dX6_load_74 : decode cX6_load 74 = .ok (.invokevirtual 199, 3) := by decide +kernel
theorem dX6_load_77 : decode cX6_load 77 = .ok (.ifCond .le 7, 3) := by decide +kernel
theorem dX6_load_80 : decode cX6_load 80 = .ok (.iconst 1, 1) := by decide +kernel
theorem dX6_load_81 : decode cX6_load 81 = .ok (.goto 4, 3) := by decide +kernel
theorem dX6_load_84 : decode cX6_load 84 = .ok (.iconst 0, 1) := by decide +kernel
theorem dX6_load_85 : decode cX6_load 85 = .ok (.invokevirtual 62, 3) := by decide +kernel
theorem dX6_load_88 : decode cX6_load 88 = .ok (.iinc 4 1, 3) := by decide +kernel
theorem dX6_load_91 : decode cX6_load 91 = .ok (.goto (-37), 3) := by decide +kernel
theorem dX6_load_94 : decode cX6_load 94 = .ok (.aload_n 3, 1) := by decide +kernel
theorem dX6_load_95 : decode cX6_load 95 = .ok (.getfield 193, 3) := by decide +kernel
theorem dX6_load_98 : decode cX6_load 98 = .ok (.ireturn, 1) := by decide +kernel
set_option maxRecDepth 20000 in
theorem ggX6_write_X6_sheetOf : GoodIn wsX6_write wsX6_sheetOf := goodIn_r _ [10, 11, 46, 47, 48, 49, 50, 51, 52, 53, 54] (by decide +kernel) (by decide +kernel)
set_option maxRecDepth 20000 in
theorem gX6_write_X6_sheetOf : GoodIn wsX6_write (wsV RX6 176 RX6 yX6_sheetOf wsX6_sheetOf) := goodIn_app (goodIn_of _ (by decide +kernel)) ggX6_write_X6_sheetOf
set_option maxRecDepth 20000 in
theorem ggX6_write_X6_isBox : GoodIn wsX6_write wsX6_isBox := goodIn_r _ [14] (by decide +kernel) (by decide +kernel)
set_option maxRecDepth 20000 in
theorem gX6_write_X6_isBox : GoodIn wsX6_write (va_wsS RX6 54 yX6_isBox wsX6_isBox) := goodIn_app (goodIn_of _ (by decide +kernel)) ggX6_write_X6_isBox
set_option maxRecDepth 20000 in
theorem ggX6_write_X6_find : GoodIn wsX6_write wsX6_find := goodIn_r _ [18, 19, 46, 47, 48, 49, 50, 51, 52, 53, 54] (by decide +kernel) (by decide +kernel)
set_option maxRecDepth 20000 in
theorem gX6_write_X6_find : GoodIn wsX6_write (wsV RX6 183 RX6 yX6_find wsX6_find) := goodIn_app (goodIn_of _ (by decide +kernel)) ggX6_write_X6_find
set_option maxRecDepth 20000 in
theorem ggX6_write_X3_ballAt : GoodIn wsX6_write wsX3_ballAt := goodIn_r _ [24, 25, 13, 9, 14, 55, 56] (by decide +kernel) (by decide +kernel)
set_option maxRecDepth 20000 in
theorem gX6_write_X3_ballAt : GoodIn wsX6_write (wsV RX6 58 RX3 yX3_ballAt wsX3_ballAt) := goodIn_app (goodIn_of _ (by decide +kernel)) ggX6_write_X3_ballAt
set_option maxRecDepth 20000 in
theorem ggX6_write_X4_place : GoodIn wsX6_write wsX4_place := goodIn_r _ [30, 31, 32, 33, 34, 29, 35, 36, 37, 38, 39, 40, 41, 42, 43, 44, 45] (by decide +kernel) (by decide +kernel)
set_option maxRecDepth 20000 in
theorem gX6_write_X4_place : GoodIn wsX6_write (wsV RX6 197 RX4 yX4_place wsX4_place) := goodIn_app (goodIn_of _ (by decide +kernel)) ggX6_write_X4_place
theorem dX6_write_0 : decode cX6_write 0 = .ok (.aload_n 0, 1) := by decide +kernel
theorem dX6_write_1 : decode cX6_write 1 = .ok (.iload_n 1, 1) := by decide +kernel
theorem dX6_write_2 : decode cX6_write 2 = .ok (.invokevirtual 176, 3) := by decide +kernel
theorem dX6_write_5 : decode cX6_write 5 = .ok (.astore_n 3, 1) := by decide +kernel
theorem dX6_write_6 : decode cX6_write 6 = .ok (.aload_n 3, 1) := by decide +kernel
theorem dX6_write_7 : decode cX6_write 7 = .ok (.ifnull 10, 3) := by decide +kernel
theorem dX6_write_10 : decode cX6_write 10 = .ok (.iload_n 2, 1) := by decide +kernel
theorem dX6_write_11 : decode cX6_write 11 = .ok (.invokestatic 54, 3) := by decide +kernel
theorem dX6_write_14 : decode cX6_write 14 = .ok (.ifCond .ne 6, 3) := by decide +kernel
theorem dX6_write_17 : decode cX6_write 17 = .ok (.bipush (-2), 2) := by decide +kernel
theorem dX6_write_19 : decode cX6_write 19 = .ok (.ireturn, 1) := by decide +kernel
theorem dX6_write_20 : decode cX6_write 20 = .ok (.aload_n 3, 1) := by decide +kernel
theorem dX6_write_21 : decode cX6_write 21 = .ok (.getfield 189, 3) := by decide +kernel
theorem dX6_write_24 : decode cX6_write 24 = .ok (.ifCond .eq 9, 3) := by decide +kernel
theorem dX6_write_27 : decode cX6_write 27 = .ok (.aload_n 0, 1) := by decide +kernel
theorem dX6_write_28 : decode cX6_write 28 = .ok (.iconst 1, 1) := by decide +kernel
theorem dX6_write_29 : decode cX6_write 29 = .ok (.invokevirtual 183, 3) := by decide +kernel
theorem dX6_write_32 : decode cX6_write 32 = .ok (.ireturn, 1) := by decide +kernel
theorem dX6_write_33 : decode cX6_write 33 = .ok (.aload_n 3, 1) := by decide +kernel
theorem dX6_write_34 : decode cX6_write 34 = .ok (.getfield 193, 3) := by decide +kernel
theorem dX6_write_37 : decode cX6_write 37 = .ok (.sipush 240, 3) := by decide +kernel
theorem dX6_write_40 : decode cX6_write 40 = .ok (.iload_n 2, 1) := by decide +kernel
theorem dX6_write_41 : decode cX6_write 41 = .ok (.isub, 1) := by decide +kernel
theorem dX6_write_42 : decode cX6_write 42 = .ok (.invokestatic 218, 3) := by decide +kernel
theorem dX6_write_45 : decode cX6_write 45 = .ok (.istore 4, 2) := by decide +kernel
theorem dX6_write_47 : decode cX6_write 47 = .ok (.iconst 0, 1) := by decide +kernel
theorem dX6_write_48 : decode cX6_write 48 = .ok (.istore 5, 2) := by decide +kernel
theorem dX6_write_50 : decode cX6_write 50 = .ok (.iload 5, 2) := by decide +kernel
theorem dX6_write_52 : decode cX6_write 52 = .ok (.iload 4, 2) := by decide +kernel
theorem dX6_write_54 : decode cX6_write 54 = .ok (.if_icmp .ge 26, 3) := by decide +kernel
theorem dX6_write_57 : decode cX6_write 57 = .ok (.aload_n 3, 1) := by decide +kernel
theorem dX6_write_58 : decode cX6_write 58 = .ok (.iload 5, 2) := by decide +kernel
theorem dX6_write_60 : decode cX6_write 60 = .ok (.aload_n 0, 1) := by decide +kernel
theorem dX6_write_61 : decode cX6_write 61 = .ok (.getfield 10, 3) := by decide +kernel
theorem dX6_write_64 : decode cX6_write 64 = .ok (.iload_n 2, 1) := by decide +kernel
theorem dX6_write_65 : decode cX6_write 65 = .ok (.iload 5, 2) := by decide +kernel
theorem dX6_write_67 : decode cX6_write 67 = .ok (.iadd, 1) := by decide +kernel
theorem dX6_write_68 : decode cX6_write 68 = .ok (.invokevirtual 58, 3) := by decide +kernel
theorem dX6_write_71 : decode cX6_write 71 = .ok (.invokevirtual 197, 3) := by decide +kernel
theorem dX6_write_74 : decode cX6_write 74 = .ok (.iinc 5 1, 3) := by decide +kernel
theorem dX6_write_77 : decode cX6_write 77 = .ok (.goto (-27), 3) := by decide +kernel
theorem dX6_write_80 : decode cX6_write 80 = .ok (.iload 4, 2) := by decide +kernel
theorem dX6_write_82 : decode cX6_write 82 = .ok (.ireturn, 1) := by decide +kernel
set_option maxRecDepth 20000 in
theorem ggX6_count_X3_balls : GoodIn wsX6_count wsX3_balls := goodIn_r _ [10, 11, 37, 38] (by decide +kernel) (by decide +kernel)
set_option maxRecDepth 20000 in
theorem gX6_count_X3_balls : GoodIn wsX6_count (wsV RX6 66 RX3 yX3_balls wsX3_balls) := goodIn_app (goodIn_of _ (by decide +kernel)) ggX6_count_X3_balls
set_option maxRecDepth 20000 in
theorem ggX6_count_J13_bitCount_95d88 : GoodIn wsX6_count wsJ13_bitCount_95d88 := goodIn_r _ [15, 16, 17, 18] (by decide +kernel) (by decide +kernel)
set_option maxRecDepth 20000 in
theorem gX6_count_J13_bitCount_95d88 : GoodIn wsX6_count (va_wsS RX6 144 yJ13_bitCount_95d88 wsJ13_bitCount_95d88) := goodIn_app (goodIn_of _ (by decide +kernel)) ggX6_count_J13_bitCount_95d88
theorem dX6_count_0 : decode cX6_count 0 = .ok (.iload_n 1, 1) := by decide +kernel
theorem dX6_count_1 : decode cX6_count 1 = .ok (.tableswitch 84 0 5 #[39, 47, 55, 66, 74, 79], 39) := by decide +kernel
theorem dX6_count_40 : decode cX6_count 40 = .ok (.aload_n 0, 1) := by decide +kernel
theorem dX6_count_41 : decode cX6_count 41 = .ok (.getfield 10, 3) := by decide +kernel
theorem dX6_count_44 : decode cX6_count 44 = .ok (.invokevirtual 66, 3) := by decide +kernel
theorem dX6_count_47 : decode cX6_count 47 = .ok (.ireturn, 1) := by decide +kernel
theorem dX6_count_48 : decode cX6_count 48 = .ok (.aload_n 0, 1) := by decide +kernel
theorem dX6_count_49 : decode cX6_count 49 = .ok (.getfield 36, 3) := by decide +kernel
theorem dX6_count_52 : decode cX6_count 52 = .ok (.getfield 223, 3) := by decide +kernel
theorem dX6_count_55 : decode cX6_count 55 = .ok (.ireturn, 1) := by decide +kernel
theorem dX6_count_56 : decode cX6_count 56 = .ok (.aload_n 0, 1) := by decide +kernel
theorem dX6_count_57 : decode cX6_count 57 = .ok (.getfield 36, 3) := by decide +kernel
theorem dX6_count_60 : decode cX6_count 60 = .ok (.getfield 224, 3) := by decide +kernel
theorem dX6_count_63 : decode cX6_count 63 = .ok (.invokestatic 144, 3) := by decide +kernel
theorem dX6_count_66 : decode cX6_count 66 = .ok (.ireturn, 1) := by decide +kernel
theorem dX6_count_67 : decode cX6_count 67 = .ok (.aload_n 0, 1) := by decide +kernel
theorem dX6_count_68 : decode cX6_count 68 = .ok (.getfield 26, 3) := by decide +kernel
theorem dX6_count_71 : decode cX6_count 71 = .ok (.getfield 104, 3) := by decide +kernel
theorem dX6_count_74 : decode cX6_count 74 = .ok (.ireturn, 1) := by decide +kernel
theorem dX6_count_75 : decode cX6_count 75 = .ok (.aload_n 0, 1) := by decide +kernel
theorem dX6_count_76 : decode cX6_count 76 = .ok (.getfield 134, 3) := by decide +kernel
theorem dX6_count_79 : decode cX6_count 79 = .ok (.ireturn, 1) := by decide +kernel
theorem dX6_count_80 : decode cX6_count 80 = .ok (.aload_n 0, 1) := by decide +kernel
theorem dX6_count_81 : decode cX6_count 81 = .ok (.getfield 227, 3) := by decide +kernel
theorem dX6_count_84 : decode cX6_count 84 = .ok (.ireturn, 1) := by decide +kernel
theorem dX6_count_85 : decode cX6_count 85 = .ok (.bipush (-2), 2) := by decide +kernel
theorem dX6_count_87 : decode cX6_count 87 = .ok (.ireturn, 1) := by decide +kernel
set_option maxRecDepth 20000 in
theorem ggX6_digest_X6_count : GoodIn wsX6_digest wsX6_count := goodIn_r _ [9, 3, 4, 10, 11, 12, 13, 14, 15, 16, 17, 18, 19, 20, 21, 22, 23, 24, 25, 38, 39, 40, 41, 42, 43, 44, 45, 46, 47, 48, 49, 50, 51, 52, 53, 54, 55, 56, 57] (by decide +kernel) (by decide +kernel)
set_option maxRecDepth 20000 in
theorem gX6_digest_X6_count : GoodIn wsX6_digest (wsV RX6 234 RX6 yX6_count wsX6_count) := goodIn_app (goodIn_of _ (by decide +kernel)) ggX6_digest_X6_count
set_option maxRecDepth 20000 in
theorem ggX6_digest_X3_ballAt : GoodIn wsX6_digest wsX3_ballAt := goodIn_r _ [29, 18, 30, 8, 31, 56, 57] (by decide +kernel) (by decide +kernel)
set_option maxRecDepth 20000 in
theorem gX6_digest_X3_ballAt : GoodIn wsX6_digest (wsV RX6 58 RX3 yX3_ballAt wsX3_ballAt) := goodIn_app (goodIn_of _ (by decide +kernel)) ggX6_digest_X3_ballAt
set_option maxRecDepth 20000 in
theorem ggX6_digest_X1_ballAt : GoodIn wsX6_digest wsX1_ballAt := goodIn_r _ [36, 37, 47, 48, 49, 50] (by decide +kernel) (by decide +kernel)
set_option maxRecDepth 20000 in
theorem gX6_digest_X1_ballAt : GoodIn wsX6_digest (wsV RX6 161 RX1 yX1_ballAt wsX1_ballAt) := goodIn_app (goodIn_of _ (by decide +kernel)) ggX6_digest_X1_ballAt
theorem dX6_digest_0 : decode cX6_digest 0 = .ok (.ldc2_w 230, 3) := by decide +kernel
theorem dX6_digest_3 : decode cX6_digest 3 = .ok (.lstore_n 1, 1) := by decide +kernel
theorem dX6_digest_4 : decode cX6_digest 4 = .ok (.iconst 0, 1) := by decide +kernel
theorem dX6_digest_5 : decode cX6_digest 5 = .ok (.istore_n 3, 1) := by decide +kernel
theorem dX6_digest_6 : decode cX6_digest 6 = .ok (.iload_n 3, 1) := by decide +kernel
theorem dX6_digest_7 : decode cX6_digest 7 = .ok (.iconst 4, 1) := by decide +kernel
theorem dX6_digest_8 : decode cX6_digest 8 = .ok (.if_icmp .gt 22, 3) := by decide +kernel
theorem dX6_digest_11 : decode cX6_digest 11 = .ok (.ldc2_w 232, 3) := by decide +kernel
theorem dX6_digest_14 : decode cX6_digest 14 = .ok (.lload_n 1, 1) := by decide +kernel
theorem dX6_digest_15 : decode cX6_digest 15 = .ok (.lmul, 1) := by decide +kernel
theorem dX6_digest_16 : decode cX6_digest 16 = .ok (.aload_n 0, 1) := by decide +kernel
theorem dX6_digest_17 : decode cX6_digest 17 = .ok (.iload_n 3, 1) := by decide +kernel
theorem dX6_digest_18 : decode cX6_digest 18 = .ok (.invokevirtual 234, 3) := by decide +kernel
theorem dX6_digest_21 : decode cX6_digest 21 = .ok (.i2l, 1) := by decide +kernel
theorem dX6_digest_22 : decode cX6_digest 22 = .ok (.ladd, 1) := by decide +kernel
theorem dX6_digest_23 : decode cX6_digest 23 = .ok (.lstore_n 1, 1) := by decide +kernel
theorem dX6_digest_24 : decode cX6_digest 24 = .ok (.iinc 3 1, 3) := by decide +kernel
theorem dX6_digest_27 : decode cX6_digest 27 = .ok (.goto (-21), 3) := by decide +kernel
theorem dX6_digest_30 : decode cX6_digest 30 = .ok (.iconst 0, 1) := by decide +kernel
theorem dX6_digest_31 : decode cX6_digest 31 = .ok (.istore_n 3, 1) := by decide +kernel
theorem dX6_digest_32 : decode cX6_digest 32 = .ok (.iload_n 3, 1) := by decide +kernel
theorem dX6_digest_33 : decode cX6_digest 33 = .ok (.sipush 240, 3) := by decide +kernel
theorem dX6_digest_36 : decode cX6_digest 36 = .ok (.if_icmp .ge 25, 3) := by decide +kernel
theorem dX6_digest_39 : decode cX6_digest 39 = .ok (.ldc2_w 232, 3) := by decide +kernel
theorem dX6_digest_42 : decode cX6_digest 42 = .ok (.lload_n 1, 1) := by decide +kernel
theorem dX6_digest_43 : decode cX6_digest 43 = .ok (.lmul, 1) := by decide +kernel
theorem dX6_digest_44 : decode cX6_digest 44 = .ok (.aload_n 0, 1) := by decide +kernel
theorem dX6_digest_45 : decode cX6_digest 45 = .ok (.getfield 10, 3) := by decide +kernel
theorem dX6_digest_48 : decode cX6_digest 48 = .ok (.iload_n 3, 1) := by decide +kernel
theorem dX6_digest_49 : decode cX6_digest 49 = .ok (.invokevirtual 58, 3) := by decide +kernel
theorem dX6_digest_52 : decode cX6_digest 52 = .ok (.i2l, 1) := by decide +kernel
theorem dX6_digest_53 : decode cX6_digest 53 = .ok (.ladd, 1) := by decide +kernel
theorem dX6_digest_54 : decode cX6_digest 54 = .ok (.lstore_n 1, 1) := by decide +kernel
theorem dX6_digest_55 : decode cX6_digest 55 = .ok (.iinc 3 1, 3) := by decide +kernel
theorem dX6_digest_58 : decode cX6_digest 58 = .ok (.goto (-26), 3) := by decide +kernel
theorem dX6_digest_61 : decode cX6_digest 61 = .ok (.iconst 0, 1) := by decide +kernel
theorem dX6_digest_62 : decode cX6_digest 62 = .ok (.istore_n 3, 1) := by decide +kernel
theorem dX6_digest_63 : decode cX6_digest 63 = .ok (.iload_n 3, 1) := by decide +kernel
theorem dX6_digest_64 : decode cX6_digest 64 = .ok (.aload_n 0, 1) := by decide +kernel
theorem dX6_digest_65 : decode cX6_digest 65 = .ok (.getfield 36, 3) := by decide +kernel
theorem dX6_digest_68 : decode cX6_digest 68 = .ok (.getfield 223, 3) := by decide +kernel
theorem dX6_digest_71 : decode cX6_digest 71 = .ok (.if_icmp .ge 25, 3) := by decide +kernel
theorem dX6_digest_74 : decode cX6_digest 74 = .ok (.ldc2_w 232, 3) := by decide +kernel
theorem dX6_digest_77 : decode cX6_digest 77 = .ok (.lload_n 1, 1) := by decide +kernel
theorem dX6_digest_78 : decode cX6_digest 78 = .ok (.lmul, 1) := by decide +kernel
theorem dX6_digest_79 : decode cX6_digest 79 = .ok (.aload_n 0, 1) := by decide +kernel
theorem dX6_digest_80 : decode cX6_digest 80 = .ok (.getfield 36, 3) := by decide +kernel
theorem dX6_digest_83 : decode cX6_digest 83 = .ok (.iload_n 3, 1) := by decide +kernel
theorem dX6_digest_84 : decode cX6_digest 84 = .ok (.invokevirtual 161, 3) := by decide +kernel
theorem dX6_digest_87 : decode cX6_digest 87 = .ok (.i2l, 1) := by decide +kernel
theorem dX6_digest_88 : decode cX6_digest 88 = .ok (.ladd, 1) := by decide +kernel
theorem dX6_digest_89 : decode cX6_digest 89 = .ok (.lstore_n 1, 1) := by decide +kernel
theorem dX6_digest_90 : decode cX6_digest 90 = .ok (.iinc 3 1, 3) := by decide +kernel
theorem dX6_digest_93 : decode cX6_digest 93 = .ok (.goto (-30), 3) := by decide +kernel
theorem dX6_digest_96 : decode cX6_digest 96 = .ok (.lload_n 1, 1) := by decide +kernel
theorem dX6_digest_97 : decode cX6_digest 97 = .ok (.lreturn, 1) := by decide +kernel
theorem dX6_isBox_0 : decode cX6_isBox 0 = .ok (.iload_n 0, 1) := by decide +kernel
theorem dX6_isBox_1 : decode cX6_isBox 1 = .ok (.ifCond .lt 14, 3) := by decide +kernel
theorem dX6_isBox_4 : decode cX6_isBox 4 = .ok (.iload_n 0, 1) := by decide +kernel
theorem dX6_isBox_5 : decode cX6_isBox 5 = .ok (.sipush 240, 3) := by decide +kernel
theorem dX6_isBox_8 : decode cX6_isBox 8 = .ok (.if_icmp .ge 7, 3) := by decide +kernel
theorem dX6_isBox_11 : decode cX6_isBox 11 = .ok (.iconst 1, 1) := by decide +kernel
theorem dX6_isBox_12 : decode cX6_isBox 12 = .ok (.goto 4, 3) := by decide +kernel
theorem dX6_isBox_15 : decode cX6_isBox 15 = .ok (.iconst 0, 1) := by decide +kernel
theorem dX6_isBox_16 : decode cX6_isBox 16 = .ok (.ireturn, 1) := by decide +kernel
theorem dX6_isRoom_0 : decode cX6_isRoom 0 = .ok (.iload_n 0, 1) := by decide +kernel
theorem dX6_isRoom_1 : decode cX6_isRoom 1 = .ok (.iconst 1, 1) := by decide +kernel
theorem dX6_isRoom_2 : decode cX6_isRoom 2 = .ok (.if_icmp .lt 13, 3) := by decide +kernel
theorem dX6_isRoom_5 : decode cX6_isRoom 5 = .ok (.iload_n 0, 1) := by decide +kernel
theorem dX6_isRoom_6 : decode cX6_isRoom 6 = .ok (.bipush 50, 2) := by decide +kernel
theorem dX6_isRoom_8 : decode cX6_isRoom 8 = .ok (.if_icmp .gt 7, 3) := by decide +kernel
theorem dX6_isRoom_11 : decode cX6_isRoom 11 = .ok (.iconst 1, 1) := by decide +kernel
theorem dX6_isRoom_12 : decode cX6_isRoom 12 = .ok (.goto 4, 3) := by decide +kernel
theorem dX6_isRoom_15 : decode cX6_isRoom 15 = .ok (.iconst 0, 1) := by decide +kernel
theorem dX6_isRoom_16 : decode cX6_isRoom 16 = .ok (.ireturn, 1) := by decide +kernel
theorem dX6_isForm_0 : decode cX6_isForm 0 = .ok (.iload_n 0, 1) := by decide +kernel
theorem dX6_isForm_1 : decode cX6_isForm 1 = .ok (.ifCond .lt 12, 3) := by decide +kernel
theorem dX6_isForm_4 : decode cX6_isForm 4 = .ok (.iload_n 0, 1) := by decide +kernel
theorem dX6_isForm_5 : decode cX6_isForm 5 = .ok (.iconst 3, 1) := by decide +kernel
theorem dX6_isForm_6 : decode cX6_isForm 6 = .ok (.if_icmp .ge 7, 3) := by decide +kernel
theorem dX6_isForm_9 : decode cX6_isForm 9 = .ok (.iconst 1, 1) := by decide +kernel
theorem dX6_isForm_10 : decode cX6_isForm 10 = .ok (.goto 4, 3) := by decide +kernel
theorem dX6_isForm_13 : decode cX6_isForm 13 = .ok (.iconst 0, 1) := by decide +kernel
theorem dX6_isForm_14 : decode cX6_isForm 14 = .ok (.ireturn, 1) := by decide +kernel
theorem dX6_isFewerThanHalf_0 : decode cX6_isFewerThanHalf 0 = .ok (.iconst 2, 1) := by decide +kernel
theorem dX6_isFewerThanHalf_1 : decode cX6_isFewerThanHalf 1 = .ok (.iload_n 0, 1) := by decide +kernel
theorem dX6_isFewerThanHalf_2 : decode cX6_isFewerThanHalf 2 = .ok (.imul, 1) := by decide +kernel
theorem dX6_isFewerThanHalf_3 : decode cX6_isFewerThanHalf 3 = .ok (.iload_n 1, 1) := by decide +kernel
theorem dX6_isFewerThanHalf_4 : decode cX6_isFewerThanHalf 4 = .ok (.if_icmp .ge 7, 3) := by decide +kernel
theorem dX6_isFewerThanHalf_7 : decode cX6_isFewerThanHalf 7 = .ok (.iconst 1, 1) := by decide +kernel
theorem dX6_isFewerThanHalf_8 : decode cX6_isFewerThanHalf 8 = .ok (.goto 4, 3) := by decide +kernel
theorem dX6_isFewerThanHalf_11 : decode cX6_isFewerThanHalf 11 = .ok (.iconst 0, 1) := by decide +kernel
theorem dX6_isFewerThanHalf_12 : decode cX6_isFewerThanHalf 12 = .ok (.ireturn, 1) := by decide +kernel
theorem dX6_loadBehind_0 : decode cX6_loadBehind 0 = .ok (.iload_n 1, 1) := by decide +kernel
theorem dX6_loadBehind_1 : decode cX6_loadBehind 1 = .ok (.ifCond .eq 16, 3) := by decide +kernel
theorem dX6_loadBehind_4 : decode cX6_loadBehind 4 = .ok (.iload_n 0, 1) := by decide +kernel
theorem dX6_loadBehind_5 : decode cX6_loadBehind 5 = .ok (.iload_n 2, 1) := by decide +kernel
theorem dX6_loadBehind_6 : decode cX6_loadBehind 6 = .ok (.if_icmp .ge 9, 3) := by decide +kernel
theorem dX6_loadBehind_9 : decode cX6_loadBehind 9 = .ok (.iload_n 0, 1) := by decide +kernel
theorem dX6_loadBehind_10 : decode cX6_loadBehind 10 = .ok (.iconst 1, 1) := by decide +kernel
theorem dX6_loadBehind_11 : decode cX6_loadBehind 11 = .ok (.iadd, 1) := by decide +kernel
theorem dX6_loadBehind_12 : decode cX6_loadBehind 12 = .ok (.goto 4, 3) := by decide +kernel
theorem dX6_loadBehind_15 : decode cX6_loadBehind 15 = .ok (.iload_n 0, 1) := by decide +kernel
theorem dX6_loadBehind_16 : decode cX6_loadBehind 16 = .ok (.ireturn, 1) := by decide +kernel
theorem dX6_loadBehind_17 : decode cX6_loadBehind 17 = .ok (.iload_n 0, 1) := by decide +kernel
theorem dX6_loadBehind_18 : decode cX6_loadBehind 18 = .ok (.ifCond .le 9, 3) := by decide +kernel
theorem dX6_loadBehind_21 : decode cX6_loadBehind 21 = .ok (.iload_n 0, 1) := by decide +kernel
theorem dX6_loadBehind_22 : decode cX6_loadBehind 22 = .ok (.iconst 1, 1) := by decide +kernel
theorem dX6_loadBehind_23 : decode cX6_loadBehind 23 = .ok (.isub, 1) := by decide +kernel
theorem dX6_loadBehind_24 : decode cX6_loadBehind 24 = .ok (.goto 4, 3) := by decide +kernel
theorem dX6_loadBehind_27 : decode cX6_loadBehind 27 = .ok (.iconst 0, 1) := by decide +kernel
theorem dX6_loadBehind_28 : decode cX6_loadBehind 28 = .ok (.ireturn, 1) := by decide +kernel
set_option maxRecDepth 20000 in
theorem ggX6_carry_X3_makeByCarrier : GoodIn wsX6_carry wsX3_makeByCarrier := goodIn_r _ [7, 8, 9, 10, 6, 11, 12, 13, 14, 15, 16, 17, 18, 19, 20, 21, 22, 36, 37] (by decide +kernel) (by decide +kernel)
set_option maxRecDepth 20000 in
theorem gX6_carry_X3_makeByCarrier : GoodIn wsX6_carry (wsV RX6 237 RX3 yX3_makeByCarrier wsX3_makeByCarrier) := goodIn_app (goodIn_of _ (by decide +kernel)) ggX6_carry_X3_makeByCarrier
set_option maxRecDepth 20000 in
theorem ggX6_carry_X3_becomeMade : GoodIn wsX6_carry wsX3_becomeMade := goodIn_r _ [26, 12, 22, 36, 37] (by decide +kernel) (by decide +kernel)
set_option maxRecDepth 20000 in
theorem gX6_carry_X3_becomeMade : GoodIn wsX6_carry (wsV RX6 137 RX3 yX3_becomeMade wsX3_becomeMade) := goodIn_app (goodIn_of _ (by decide +kernel)) ggX6_carry_X3_becomeMade
theorem dX6_carry_0 : decode cX6_carry 0 = .ok (.aload_n 0, 1) := by decide +kernel
theorem dX6_carry_1 : decode cX6_carry 1 = .ok (.getfield 10, 3) := by decide +kernel
theorem dX6_carry_4 : decode cX6_carry 4 = .ok (.iload_n 1, 1) := by decide +kernel
theorem dX6_carry_5 : decode cX6_carry 5 = .ok (.iload_n 2, 1) := by decide +kernel
theorem dX6_carry_6 : decode cX6_carry 6 = .ok (.invokevirtual 237, 3) := by decide +kernel
theorem dX6_carry_9 : decode cX6_carry 9 = .ok (.ifCond .eq 6, 3) := by decide +kernel
theorem dX6_carry_12 : decode cX6_carry 12 = .ok (.bipush (-4), 2) := by decide +kernel
theorem dX6_carry_14 : decode cX6_carry 14 = .ok (.ireturn, 1) := by decide +kernel
theorem dX6_carry_15 : decode cX6_carry 15 = .ok (.aload_n 0, 1) := by decide +kernel
theorem dX6_carry_16 : decode cX6_carry 16 = .ok (.dup, 1) := by decide +kernel
theorem dX6_carry_17 : decode cX6_carry 17 = .ok (.getfield 134, 3) := by decide +kernel
theorem dX6_carry_20 : decode cX6_carry 20 = .ok (.iconst 1, 1) := by decide +kernel
theorem dX6_carry_21 : decode cX6_carry 21 = .ok (.iadd, 1) := by decide +kernel
theorem dX6_carry_22 : decode cX6_carry 22 = .ok (.putfield 134, 3) := by decide +kernel
theorem dX6_carry_25 : decode cX6_carry 25 = .ok (.aload_n 0, 1) := by decide +kernel
theorem dX6_carry_26 : decode cX6_carry 26 = .ok (.getfield 10, 3) := by decide +kernel
theorem dX6_carry_29 : decode cX6_carry 29 = .ok (.invokevirtual 137, 3) := by decide +kernel
theorem dX6_carry_32 : decode cX6_carry 32 = .ok (.ireturn, 1) := by decide +kernel
theorem dX6_sheetOf_0 : decode cX6_sheetOf 0 = .ok (.iload_n 1, 1) := by decide +kernel
theorem dX6_sheetOf_1 : decode cX6_sheetOf 1 = .ok (.ifCond .lt 21, 3) := by decide +kernel
theorem dX6_sheetOf_4 : decode cX6_sheetOf 4 = .ok (.iload_n 1, 1) := by decide +kernel
theorem dX6_sheetOf_5 : decode cX6_sheetOf 5 = .ok (.aload_n 0, 1) := by decide +kernel
theorem dX6_sheetOf_6 : decode cX6_sheetOf 6 = .ok (.getfield 49, 3) := by decide +kernel
theorem dX6_sheetOf_9 : decode cX6_sheetOf 9 = .ok (.arraylength, 1) := by decide +kernel
theorem dX6_sheetOf_10 : decode cX6_sheetOf 10 = .ok (.if_icmp .ge 12, 3) := by decide +kernel
theorem dX6_sheetOf_13 : decode cX6_sheetOf 13 = .ok (.aload_n 0, 1) := by decide +kernel
theorem dX6_sheetOf_14 : decode cX6_sheetOf 14 = .ok (.getfield 49, 3) := by decide +kernel
theorem dX6_sheetOf_17 : decode cX6_sheetOf 17 = .ok (.iload_n 1, 1) := by decide +kernel
theorem dX6_sheetOf_18 : decode cX6_sheetOf 18 = .ok (.aaload, 1) := by decide +kernel
theorem dX6_sheetOf_19 : decode cX6_sheetOf 19 = .ok (.goto 4, 3) := by decide +kernel
theorem dX6_sheetOf_22 : decode cX6_sheetOf 22 = .ok (.aconst_null, 1) := by decide +kernel
theorem dX6_sheetOf_23 : decode cX6_sheetOf 23 = .ok (.areturn, 1) := by decide +kernel
theorem dX6_find_0 : decode cX6_find 0 = .ok (.aload_n 0, 1) := by decide +kernel
theorem dX6_find_1 : decode cX6_find 1 = .ok (.iload_n 1, 1) := by decide +kernel
theorem dX6_find_2 : decode cX6_find 2 = .ok (.putfield 227, 3) := by decide +kernel
theorem dX6_find_5 : decode cX6_find 5 = .ok (.bipush (-10), 2) := by decide +kernel
theorem dX6_find_7 : decode cX6_find 7 = .ok (.iload_n 1, 1) := by decide +kernel
theorem dX6_find_8 : decode cX6_find 8 = .ok (.isub, 1) := by decide +kernel
theorem dX6_find_9 : decode cX6_find 9 = .ok (.ireturn, 1) := by decide +kernel
theorem dX7_init_0 : decode cX7_init 0 = .ok (.aload_n 0, 1) := by decide +kernel
theorem dX7_init_1 : decode cX7_init 1 = .ok (.invokespecial 1, 3) := by decide +kernel
theorem dX7_init_4 : decode cX7_init 4 = .ok (.aload_n 0, 1) := by decide +kernel
theorem dX7_init_5 : decode cX7_init 5 = .ok (.sipush 240, 3) := by decide +kernel
theorem dX7_init_8 : decode cX7_init 8 = .ok (.newarray .boolean, 2) := by decide +kernel
theorem dX7_init_10 : decode cX7_init 10 = .ok (.putfield 7, 3) := by decide +kernel
theorem dX7_init_13 : decode cX7_init 13 = .ok (.aload_n 0, 1) := by decide +kernel
theorem dX7_init_14 : decode cX7_init 14 = .ok (.sipush 240, 3) := by decide +kernel
theorem dX7_init_17 : decode cX7_init 17 = .ok (.newarray .boolean, 2) := by decide +kernel
theorem dX7_init_19 : decode cX7_init 19 = .ok (.putfield 13, 3) := by decide +kernel
theorem dX7_init_22 : decode cX7_init 22 = .ok (.aload_n 0, 1) := by decide +kernel
theorem dX7_init_23 : decode cX7_init 23 = .ok (.sipush 240, 3) := by decide +kernel
theorem dX7_init_26 : decode cX7_init 26 = .ok (.newarray .boolean, 2) := by decide +kernel
theorem dX7_init_28 : decode cX7_init 28 = .ok (.putfield 16, 3) := by decide +kernel
theorem dX7_init_31 : decode cX7_init 31 = .ok (.aload_n 0, 1) := by decide +kernel
theorem dX7_init_32 : decode cX7_init 32 = .ok (.sipush 240, 3) := by decide +kernel
theorem dX7_init_35 : decode cX7_init 35 = .ok (.newarray .int, 2) := by decide +kernel
theorem dX7_init_37 : decode cX7_init 37 = .ok (.putfield 19, 3) := by decide +kernel
theorem dX7_init_40 : decode cX7_init 40 = .ok (.aload_n 0, 1) := by decide +kernel
theorem dX7_init_41 : decode cX7_init 41 = .ok (.sipush 241, 3) := by decide +kernel
theorem dX7_init_44 : decode cX7_init 44 = .ok (.newarray .int, 2) := by decide +kernel
theorem dX7_init_46 : decode cX7_init 46 = .ok (.putfield 23, 3) := by decide +kernel
theorem dX7_init_49 : decode cX7_init 49 = .ok (.aload_n 0, 1) := by decide +kernel
theorem dX7_init_50 : decode cX7_init 50 = .ok (.sipush 241, 3) := by decide +kernel
theorem dX7_init_53 : decode cX7_init 53 = .ok (.newarray .int, 2) := by decide +kernel
theorem dX7_init_55 : decode cX7_init 55 = .ok (.putfield 26, 3) := by decide +kernel
theorem dX7_init_58 : decode cX7_init 58 = .ok (.aload_n 0, 1) := by decide +kernel
theorem dX7_init_59 : decode cX7_init 59 = .ok (.sipush 241, 3) := by decide +kernel
theorem dX7_init_62 : decode cX7_init 62 = .ok (.newarray .int, 2) := by decide +kernel
theorem dX7_init_64 : decode cX7_init 64 = .ok (.putfield 29, 3) := by decide +kernel
theorem dX7_init_67 : decode cX7_init 67 = .ok (.aload_n 0, 1) := by decide +kernel
theorem dX7_init_68 : decode cX7_init 68 = .ok (.sipush 241, 3) := by decide +kernel
theorem dX7_init_71 : decode cX7_init 71 = .ok (.newarray .int, 2) := by decide +kernel
theorem dX7_init_73 : decode cX7_init 73 = .ok (.putfield 32, 3) := by decide +kernel
theorem dX7_init_76 : decode cX7_init 76 = .ok (.aload_n 0, 1) := by decide +kernel
theorem dX7_init_77 : decode cX7_init 77 = .ok (.sipush 241, 3) := by decide +kernel
theorem dX7_init_80 : decode cX7_init 80 = .ok (.newarray .int, 2) := by decide +kernel
theorem dX7_init_82 : decode cX7_init 82 = .ok (.putfield 35, 3) := by decide +kernel
theorem dX7_init_85 : decode cX7_init 85 = .ok (.aload_n 0, 1) := by decide +kernel
theorem dX7_init_86 : decode cX7_init 86 = .ok (.iconst 1, 1) := by decide +kernel
theorem dX7_init_87 : decode cX7_init 87 = .ok (.putfield 38, 3) := by decide +kernel
theorem dX7_init_90 : decode cX7_init 90 = .ok (.aload_n 0, 1) := by decide +kernel
theorem dX7_init_91 : decode cX7_init 91 = .ok (.bipush 40, 2) := by decide +kernel
theorem dX7_init_93 : decode cX7_init 93 = .ok (.newarray .boolean, 2) := by decide +kernel
theorem dX7_init_95 : decode cX7_init 95 = .ok (.putfield 42, 3) := by decide +kernel
theorem dX7_init_98 : decode cX7_init 98 = .ok (.aload_n 0, 1) := by decide +kernel
theorem dX7_init_99 : decode cX7_init 99 = .ok (.bipush 40, 2) := by decide +kernel
theorem dX7_init_101 : decode cX7_init 101 = .ok (.newarray .boolean, 2) := by decide +kernel
theorem dX7_init_103 : decode cX7_init 103 = .ok (.putfield 45, 3) := by decide +kernel
theorem dX7_init_106 : decode cX7_init 106 = .ok (.aload_n 0, 1) := by decide +kernel
theorem dX7_init_107 : decode cX7_init 107 = .ok (.bipush 40, 2) := by decide +kernel
theorem dX7_init_109 : decode cX7_init 109 = .ok (.newarray .boolean, 2) := by decide +kernel
theorem dX7_init_111 : decode cX7_init 111 = .ok (.putfield 48, 3) := by decide +kernel
theorem dX7_init_114 : decode cX7_init 114 = .ok (.aload_n 0, 1) := by decide +kernel
theorem dX7_init_115 : decode cX7_init 115 = .ok (.iconst 4, 1) := by decide +kernel
theorem dX7_init_116 : decode cX7_init 116 = .ok (.newarray .boolean, 2) := by decide +kernel
theorem dX7_init_118 : decode cX7_init 118 = .ok (.putfield 51, 3) := by decide +kernel
theorem dX7_init_121 : decode cX7_init 121 = .ok (.aload_n 0, 1) := by decide +kernel
theorem dX7_init_122 : decode cX7_init 122 = .ok (.iconst 4, 1) := by decide +kernel
theorem dX7_init_123 : decode cX7_init 123 = .ok (.newarray .int, 2) := by decide +kernel
theorem dX7_init_125 : decode cX7_init 125 = .ok (.putfield 54, 3) := by decide +kernel
theorem dX7_init_128 : decode cX7_init 128 = .ok (.aload_n 0, 1) := by decide +kernel
theorem dX7_init_129 : decode cX7_init 129 = .ok (.iconst 4, 1) := by decide +kernel
theorem dX7_init_130 : decode cX7_init 130 = .ok (.newarray .int, 2) := by decide +kernel
theorem dX7_init_132 : decode cX7_init 132 = .ok (.putfield 57, 3) := by decide +kernel
theorem dX7_init_135 : decode cX7_init 135 = .ok (.aload_n 0, 1) := by decide +kernel
theorem dX7_init_136 : decode cX7_init 136 = .ok (.sipush 400, 3) := by decide +kernel
theorem dX7_init_139 : decode cX7_init 139 = .ok (.newarray .int, 2) := by decide +kernel
theorem dX7_init_141 : decode cX7_init 141 = .ok (.putfield 60, 3) := by decide +kernel
theorem dX7_init_144 : decode cX7_init 144 = .ok (.aload_n 0, 1) := by decide +kernel
theorem dX7_init_145 : decode cX7_init 145 = .ok (.bipush 100, 2) := by decide +kernel
theorem dX7_init_147 : decode cX7_init 147 = .ok (.newarray .int, 2) := by decide +kernel
theorem dX7_init_149 : decode cX7_init 149 = .ok (.putfield 63, 3) := by decide +kernel
theorem dX7_init_152 : decode cX7_init 152 = .ok (.return_, 1) := by decide +kernel
theorem dX7_in_0 : decode cX7_in 0 = .ok (.iload_n 0, 1) := by decide +kernel
theorem dX7_in_1 : decode cX7_in 1 = .ok (.iload_n 1, 1) := by decide +kernel
theorem dX7_in_2 : decode cX7_in 2 = .ok (.if_icmp .lt 12, 3) := by decide +kernel
theorem dX7_in_5 : decode cX7_in 5 = .ok (.iload_n 0, 1) := by decide +kernel
theorem dX7_in_6 : decode cX7_in 6 = .ok (.iload_n 2, 1) := by decide +kernel
theorem dX7_in_7 : decode cX7_in 7 = .ok (.if_icmp .gt 7, 3) := by decide +kernel
theorem dX7_in_10 : decode cX7_in 10 = .ok (.iconst 1, 1) := by decide +kernel
theorem dX7_in_11 : decode cX7_in 11 = .ok (.goto 4, 3) := by decide +kernel
theorem dX7_in_14 : decode cX7_in 14 = .ok (.iconst 0, 1) := by decide +kernel
theorem dX7_in_15 : decode cX7_in 15 = .ok (.ireturn, 1) := by decide +kernel
set_option maxRecDepth 20000 in
theorem ggX7_set_X7_in : GoodIn wsX7_set wsX7_in := goodIn_r _ [5] (by decide +kernel) (by decide +kernel)
set_option maxRecDepth 20000 in
theorem gX7_set_X7_in : GoodIn wsX7_set (va_wsS RX7 66 yX7_in wsX7_in) := goodIn_app (goodIn_of _ (by decide +kernel)) ggX7_set_X7_in
theorem dX7_set_0 : decode cX7_set 0 = .ok (.iload_n 1, 1) := by decide +kernel
theorem dX7_set_1 : decode cX7_set 1 = .ok (.iconst 0, 1) := by decide +kernel
theorem dX7_set_2 : decode cX7_set 2 = .ok (.sipush 239, 3) := by decide +kernel
theorem dX7_set_5 : decode cX7_set 5 = .ok (.invokestatic 66, 3) := by decide +kernel
theorem dX7_set_8 : decode cX7_set 8 = .ok (.ifCond .ne 6, 3) := by decide +kernel
theorem dX7_set_11 : decode cX7_set 11 = .ok (.bipush (-2), 2) := by decide +kernel
theorem dX7_set_13 : decode cX7_set 13 = .ok (.ireturn, 1) := by decide +kernel
theorem dX7_set_14 : decode cX7_set 14 = .ok (.aload_n 0, 1) := by decide +kernel
theorem dX7_set_15 : decode cX7_set 15 = .ok (.getfield 7, 3) := by decide +kernel
theorem dX7_set_18 : decode cX7_set 18 = .ok (.iload_n 1, 1) := by decide +kernel
theorem dX7_set_19 : decode cX7_set 19 = .ok (.baload, 1) := by decide +kernel
theorem dX7_set_20 : decode cX7_set 20 = .ok (.iload_n 2, 1) := by decide +kernel
theorem dX7_set_21 : decode cX7_set 21 = .ok (.if_icmp .ne 7, 3) := by decide +kernel
theorem dX7_set_24 : decode cX7_set 24 = .ok (.iconst 1, 1) := by decide +kernel
theorem dX7_set_25 : decode cX7_set 25 = .ok (.goto 4, 3) := by decide +kernel
theorem dX7_set_28 : decode cX7_set 28 = .ok (.iconst 0, 1) := by decide +kernel
theorem dX7_set_29 : decode cX7_set 29 = .ok (.istore_n 3, 1) := by decide +kernel
theorem dX7_set_30 : decode cX7_set 30 = .ok (.aload_n 0, 1) := by decide +kernel
theorem dX7_set_31 : decode cX7_set 31 = .ok (.getfield 7, 3) := by decide +kernel
theorem dX7_set_34 : decode cX7_set 34 = .ok (.iload_n 1, 1) := by decide +kernel
theorem dX7_set_35 : decode cX7_set 35 = .ok (.iload_n 2, 1) := by decide +kernel
theorem dX7_set_36 : decode cX7_set 36 = .ok (.bastore, 1) := by decide +kernel
theorem dX7_set_37 : decode cX7_set 37 = .ok (.iload_n 3, 1) := by decide +kernel
theorem dX7_set_38 : decode cX7_set 38 = .ok (.ifCond .eq 7, 3) := by decide +kernel
theorem dX7_set_41 : decode cX7_set 41 = .ok (.iconst 0, 1) := by decide +kernel
theorem dX7_set_42 : decode cX7_set 42 = .ok (.goto 4, 3) := by decide +kernel
theorem dX7_set_45 : decode cX7_set 45 = .ok (.iconst 1, 1) := by decide +kernel
theorem dX7_set_46 : decode cX7_set 46 = .ok (.ireturn, 1) := by decide +kernel
set_option maxRecDepth 20000 in
theorem ggX7_at_X7_in : GoodIn wsX7_at wsX7_in := goodIn_r _ [5] (by decide +kernel) (by decide +kernel)
set_option maxRecDepth 20000 in
theorem gX7_at_X7_in : GoodIn wsX7_at (va_wsS RX7 66 yX7_in wsX7_in) := goodIn_app (goodIn_of _ (by decide +kernel)) ggX7_at_X7_in
theorem dX7_at_0 : decode cX7_at 0 = .ok (.iload_n 1, 1) := by decide +kernel
theorem dX7_at_1 : decode cX7_at 1 = .ok (.iconst 0, 1) := by decide +kernel
theorem dX7_at_2 : decode cX7_at 2 = .ok (.sipush 239, 3) := by decide +kernel
theorem dX7_at_5 : decode cX7_at 5 = .ok (.invokestatic 66, 3) := by decide +kernel
theorem dX7_at_8 : decode cX7_at 8 = .ok (.ifCond .eq 20, 3) := by decide +kernel
theorem dX7_at_11 : decode cX7_at 11 = .ok (.aload_n 0, 1) := by decide +kernel
theorem dX7_at_12 : decode cX7_at 12 = .ok (.getfield 7, 3) := by decide +kernel
theorem dX7_at_15 : decode cX7_at 15 = .ok (.iload_n 1, 1) := by decide +kernel
theorem dX7_at_16 : decode cX7_at 16 = .ok (.baload, 1) := by decide +kernel
theorem dX7_at_17 : decode cX7_at 17 = .ok (.ifCond .eq 7, 3) := by decide +kernel
theorem dX7_at_20 : decode cX7_at 20 = .ok (.iconst 1, 1) := by decide +kernel
theorem dX7_at_21 : decode cX7_at 21 = .ok (.goto 9, 3) := by decide +kernel
theorem dX7_at_24 : decode cX7_at 24 = .ok (.iconst 0, 1) := by decide +kernel
theorem dX7_at_25 : decode cX7_at 25 = .ok (.goto 5, 3) := by decide +kernel
theorem dX7_at_28 : decode cX7_at 28 = .ok (.bipush (-2), 2) := by decide +kernel
theorem dX7_at_30 : decode cX7_at 30 = .ok (.ireturn, 1) := by decide +kernel
theorem dX7_balls_0 : decode cX7_balls 0 = .ok (.iconst 0, 1) := by decide +kernel
theorem dX7_balls_1 : decode cX7_balls 1 = .ok (.istore_n 1, 1) := by decide +kernel
theorem dX7_balls_2 : decode cX7_balls 2 = .ok (.iconst 0, 1) := by decide +kernel
theorem dX7_balls_3 : decode cX7_balls 3 = .ok (.istore_n 2, 1) := by decide +kernel
theorem dX7_balls_4 : decode cX7_balls 4 = .ok (.iload_n 2, 1) := by decide +kernel
theorem dX7_balls_5 : decode cX7_balls 5 = .ok (.sipush 240, 3) := by decide +kernel
theorem dX7_balls_8 : decode cX7_balls 8 = .ok (.if_icmp .ge 26, 3) := by decide +kernel
theorem dX7_balls_11 : decode cX7_balls 11 = .ok (.iload_n 1, 1) := by decide +kernel
theorem dX7_balls_12 : decode cX7_balls 12 = .ok (.aload_n 0, 1) := by decide +kernel
theorem dX7_balls_13 : decode cX7_balls 13 = .ok (.getfield 7, 3) := by decide +kernel
theorem dX7_balls_16 : decode cX7_balls 16 = .ok (.iload_n 2, 1) := by decide +kernel
theorem dX7_balls_17 : decode cX7_balls 17 = .ok (.baload, 1) := by decide +kernel
theorem dX7_balls_18 : decode cX7_balls 18 = .ok (.ifCond .eq 7, 3) := by decide +kernel
theorem dX7_balls_21 : decode cX7_balls 21 = .ok (.iconst 1, 1) := by decide +kernel
theorem dX7_balls_22 : decode cX7_balls 22 = .ok (.goto 4, 3) := by decide +kernel
theorem dX7_balls_25 : decode cX7_balls 25 = .ok (.iconst 0, 1) := by decide +kernel
theorem dX7_balls_26 : decode cX7_balls 26 = .ok (.iadd, 1) := by decide +kernel
theorem dX7_balls_27 : decode cX7_balls 27 = .ok (.istore_n 1, 1) := by decide +kernel
theorem dX7_balls_28 : decode cX7_balls 28 = .ok (.iinc 2 1, 3) := by decide +kernel
theorem dX7_balls_31 : decode cX7_balls 31 = .ok (.goto (-27), 3) := by decide +kernel
theorem dX7_balls_34 : decode cX7_balls 34 = .ok (.iload_n 1, 1) := by decide +kernel
theorem dX7_balls_35 : decode cX7_balls 35 = .ok (.ireturn, 1) := by decide +kernel
set_option maxRecDepth 20000 in
theorem ggX7_empty_X7_balls : GoodIn wsX7_empty wsX7_balls := goodIn_r _ [6, 1, 7, 8, 9, 10, 11, 12, 13, 14, 15, 16, 17, 18, 19, 20, 21, 22, 23, 24, 25, 26, 27, 28] (by decide +kernel) (by decide +kernel)
set_option maxRecDepth 20000 in
theorem gX7_empty_X7_balls : GoodIn wsX7_empty (wsV RX7 70 RX7 yX7_balls wsX7_balls) := goodIn_app (goodIn_of _ (by decide +kernel)) ggX7_empty_X7_balls
theorem dX7_empty_0 : decode cX7_empty 0 = .ok (.aload_n 0, 1) := by decide +kernel
theorem dX7_empty_1 : decode cX7_empty 1 = .ok (.invokevirtual 70, 3) := by decide +kernel
theorem dX7_empty_4 : decode cX7_empty 4 = .ok (.istore_n 1, 1) := by decide +kernel
theorem dX7_empty_5 : decode cX7_empty 5 = .ok (.iconst 0, 1) := by decide +kernel
theorem dX7_empty_6 : decode cX7_empty 6 = .ok (.istore_n 2, 1) := by decide +kernel
theorem dX7_empty_7 : decode cX7_empty 7 = .ok (.iload_n 2, 1) := by decide +kernel
theorem dX7_empty_8 : decode cX7_empty 8 = .ok (.sipush 240, 3) := by decide +kernel
theorem dX7_empty_11 : decode cX7_empty 11 = .ok (.if_icmp .ge 16, 3) := by decide +kernel
theorem dX7_empty_14 : decode cX7_empty 14 = .ok (.aload_n 0, 1) := by decide +kernel
theorem dX7_empty_15 : decode cX7_empty 15 = .ok (.getfield 7, 3) := by decide +kernel
theorem dX7_empty_18 : decode cX7_empty 18 = .ok (.iload_n 2, 1) := by decide +kernel
theorem dX7_empty_19 : decode cX7_empty 19 = .ok (.iconst 0, 1) := by decide +kernel
theorem dX7_empty_20 : decode cX7_empty 20 = .ok (.bastore, 1) := by decide +kernel
theorem dX7_empty_21 : decode cX7_empty 21 = .ok (.iinc 2 1, 3) := by decide +kernel
theorem dX7_empty_24 : decode cX7_empty 24 = .ok (.goto (-17), 3) := by decide +kernel
theorem dX7_empty_27 : decode cX7_empty 27 = .ok (.iload_n 1, 1) := by decide +kernel
theorem dX7_empty_28 : decode cX7_empty 28 = .ok (.ireturn, 1) := by decide +kernel
theorem dX7_takes_0 : decode cX7_takes 0 = .ok (.iconst 0, 1) := by decide +kernel
theorem dX7_takes_1 : decode cX7_takes 1 = .ok (.istore_n 1, 1) := by decide +kernel
theorem dX7_takes_2 : decode cX7_takes 2 = .ok (.iconst 0, 1) := by decide +kernel
theorem dX7_takes_3 : decode cX7_takes 3 = .ok (.istore_n 2, 1) := by decide +kernel
theorem dX7_takes_4 : decode cX7_takes 4 = .ok (.iload_n 2, 1) := by decide +kernel
theorem dX7_takes_5 : decode cX7_takes 5 = .ok (.sipush 240, 3) := by decide +kernel
theorem dX7_takes_8 : decode cX7_takes 8 = .ok (.if_icmp .ge 44, 3) := by decide +kernel
theorem dX7_takes_11 : decode cX7_takes 11 = .ok (.iload_n 1, 1) := by decide +kernel
theorem dX7_takes_12 : decode cX7_takes 12 = .ok (.aload_n 0, 1) := by decide +kernel
theorem dX7_takes_13 : decode cX7_takes 13 = .ok (.getfield 7, 3) := by decide +kernel
theorem dX7_takes_16 : decode cX7_takes 16 = .ok (.iload_n 2, 1) := by decide +kernel
theorem dX7_takes_17 : decode cX7_takes 17 = .ok (.baload, 1) := by decide +kernel
theorem dX7_takes_18 : decode cX7_takes 18 = .ok (.aload_n 0, 1) := by decide +kernel
theorem dX7_takes_19 : decode cX7_takes 19 = .ok (.getfield 13, 3) := by decide +kernel
theorem dX7_takes_22 : decode cX7_takes 22 = .ok (.iload_n 2, 1) := by decide +kernel
theorem dX7_takes_23 : decode cX7_takes 23 = .ok (.baload, 1) := by decide +kernel
theorem dX7_takes_24 : decode cX7_takes 24 = .ok (.if_icmp .ne 7, 3) := by decide +kernel
theorem dX7_takes_27 : decode cX7_takes 27 = .ok (.iconst 0, 1) := by decide +kernel
theorem dX7_takes_28 : decode cX7_takes 28 = .ok (.goto 4, 3) := by decide +kernel
theorem dX7_takes_31 : decode cX7_takes 31 = .ok (.iconst 1, 1) := by decide +kernel
theorem dX7_takes_32 : decode cX7_takes 32 = .ok (.iadd, 1) := by decide +kernel
theorem dX7_takes_33 : decode cX7_takes 33 = .ok (.istore_n 1, 1) := by decide +kernel
theorem dX7_takes_34 : decode cX7_takes 34 = .ok (.aload_n 0, 1) := by decide +kernel
theorem dX7_takes_35 : decode cX7_takes 35 = .ok (.getfield 7, 3) := by decide +kernel
theorem dX7_takes_38 : decode cX7_takes 38 = .ok (.iload_n 2, 1) := by decide +kernel
theorem dX7_takes_39 : decode cX7_takes 39 = .ok (.aload_n 0, 1) := by decide +kernel
theorem dX7_takes_40 : decode cX7_takes 40 = .ok (.getfield 13, 3) := by decide +kernel
theorem dX7_takes_43 : decode cX7_takes 43 = .ok (.iload_n 2, 1) := by decide +kernel
theorem dX7_takes_44 : decode cX7_takes 44 = .ok (.baload, 1) := by decide +kernel
theorem dX7_takes_45 : decode cX7_takes 45 = .ok (.bastore, 1) := by decide +kernel
theorem dX7_takes_46 : decode cX7_takes 46 = .ok (.iinc 2 1, 3) := by decide +kernel
theorem dX7_takes_49 : decode cX7_takes 49 = .ok (.goto (-45), 3) := by decide +kernel
theorem dX7_takes_52 : decode cX7_takes 52 = .ok (.aload_n 0, 1) := by decide +kernel
theorem dX7_takes_53 : decode cX7_takes 53 = .ok (.dup, 1) := by decide +kernel
theorem dX7_takes_54 : decode cX7_takes 54 = .ok (.getfield 74, 3) := by decide +kernel
theorem dX7_takes_57 : decode cX7_takes 57 = .ok (.iconst 1, 1) := by decide +kernel
theorem dX7_takes_58 : decode cX7_takes 58 = .ok (.iadd, 1) := by decide +kernel
theorem dX7_takes_59 : decode cX7_takes 59 = .ok (.putfield 74, 3) := by decide +kernel
theorem dX7_takes_62 : decode cX7_takes 62 = .ok (.iload_n 1, 1) := by decide +kernel
theorem dX7_takes_63 : decode cX7_takes 63 = .ok (.ireturn, 1) := by decide +kernel
set_option maxRecDepth 20000 in
theorem ggX7_goes_X7_in : GoodIn wsX7_goes wsX7_in := goodIn_r _ [6] (by decide +kernel) (by decide +kernel)
set_option maxRecDepth 20000 in
theorem gX7_goes_X7_in : GoodIn wsX7_goes (va_wsS RX7 66 yX7_in wsX7_in) := goodIn_app (goodIn_of _ (by decide +kernel)) ggX7_goes_X7_in
set_option maxRecDepth 20000 in
theorem ggX7_goes_X7_takes : GoodIn wsX7_goes wsX7_takes := goodIn_r _ [10, 2, 1, 11, 12, 13, 14, 15, 16, 17, 18, 19, 20, 21, 22, 23, 24, 25, 26, 27, 28, 29, 30, 31, 32, 33] (by decide +kernel) (by decide +kernel)
set_option maxRecDepth 20000 in
theorem gX7_goes_X7_takes : GoodIn wsX7_goes (wsV RX7 77 RX7 yX7_takes wsX7_takes) := goodIn_app (goodIn_of _ (by decide +kernel)) ggX7_goes_X7_takes
theorem dX7_goes_0 : decode cX7_goes 0 = .ok (.iload_n 1, 1) := by decide +kernel
theorem dX7_goes_1 : decode cX7_goes 1 = .ok (.iconst 1, 1) := by decide +kernel
theorem dX7_goes_2 : decode cX7_goes 2 = .ok (.bipush 50, 2) := by decide +kernel
theorem dX7_goes_4 : decode cX7_goes 4 = .ok (.invokestatic 66, 3) := by decide +kernel
theorem dX7_goes_7 : decode cX7_goes 7 = .ok (.ifCond .ne 6, 3) := by decide +kernel
theorem dX7_goes_10 : decode cX7_goes 10 = .ok (.bipush (-2), 2) := by decide +kernel
theorem dX7_goes_12 : decode cX7_goes 12 = .ok (.ireturn, 1) := by decide +kernel
theorem dX7_goes_13 : decode cX7_goes 13 = .ok (.iconst 0, 1) := by decide +kernel
theorem dX7_goes_14 : decode cX7_goes 14 = .ok (.istore_n 3, 1) := by decide +kernel
theorem dX7_goes_15 : decode cX7_goes 15 = .ok (.iconst 0, 1) := by decide +kernel
theorem dX7_goes_16 : decode cX7_goes 16 = .ok (.istore 4, 2) := by decide +kernel
theorem dX7_goes_18 : decode cX7_goes 18 = .ok (.iload 4, 2) := by decide +kernel
theorem dX7_goes_20 : decode cX7_goes 20 = .ok (.sipush 240, 3) := by decide +kernel
theorem dX7_goes_23 : decode cX7_goes 23 = .ok (.if_icmp .ge 94, 3) := by decide +kernel
theorem dX7_goes_26 : decode cX7_goes 26 = .ok (.iload_n 2, 1) := by decide +kernel
theorem dX7_goes_27 : decode cX7_goes 27 = .ok (.ifCond .eq 12, 3) := by decide +kernel
theorem dX7_goes_30 : decode cX7_goes 30 = .ok (.sipush 239, 3) := by decide +kernel
theorem dX7_goes_33 : decode cX7_goes 33 = .ok (.iload 4, 2) := by decide +kernel
theorem dX7_goes_35 : decode cX7_goes 35 = .ok (.isub, 1) := by decide +kernel
theorem dX7_goes_36 : decode cX7_goes 36 = .ok (.goto 5, 3) := by decide +kernel
theorem dX7_goes_39 : decode cX7_goes 39 = .ok (.iload 4, 2) := by decide +kernel
theorem dX7_goes_41 : decode cX7_goes 41 = .ok (.istore 5, 2) := by decide +kernel
theorem dX7_goes_43 : decode cX7_goes 43 = .ok (.aload_n 0, 1) := by decide +kernel
theorem dX7_goes_44 : decode cX7_goes 44 = .ok (.getfield 13, 3) := by decide +kernel
theorem dX7_goes_47 : decode cX7_goes 47 = .ok (.iload 5, 2) := by decide +kernel
theorem dX7_goes_49 : decode cX7_goes 49 = .ok (.aload_n 0, 1) := by decide +kernel
theorem dX7_goes_50 : decode cX7_goes 50 = .ok (.getfield 7, 3) := by decide +kernel
theorem dX7_goes_53 : decode cX7_goes 53 = .ok (.iload 5, 2) := by decide +kernel
theorem dX7_goes_55 : decode cX7_goes 55 = .ok (.baload, 1) := by decide +kernel
theorem dX7_goes_56 : decode cX7_goes 56 = .ok (.bastore, 1) := by decide +kernel
theorem dX7_goes_57 : decode cX7_goes 57 = .ok (.aload_n 0, 1) := by decide +kernel
theorem dX7_goes_58 : decode cX7_goes 58 = .ok (.getfield 7, 3) := by decide +kernel
theorem dX7_goes_61 : decode cX7_goes 61 = .ok (.iload 5, 2) := by decide +kernel
theorem dX7_goes_63 : decode cX7_goes 63 = .ok (.baload, 1) := by decide +kernel
theorem dX7_goes_64 : decode cX7_goes 64 = .ok (.ifCond .eq 22, 3) := by decide +kernel
theorem dX7_goes_67 : decode cX7_goes 67 = .ok (.iload_n 3, 1) := by decide +kernel
theorem dX7_goes_68 : decode cX7_goes 68 = .ok (.iload_n 1, 1) := by decide +kernel
theorem dX7_goes_69 : decode cX7_goes 69 = .ok (.if_icmp .ge 17, 3) := by decide +kernel
theorem dX7_goes_72 : decode cX7_goes 72 = .ok (.aload_n 0, 1) := by decide +kernel
theorem dX7_goes_73 : decode cX7_goes 73 = .ok (.getfield 13, 3) := by decide +kernel
theorem dX7_goes_76 : decode cX7_goes 76 = .ok (.iload 5, 2) := by decide +kernel
theorem dX7_goes_78 : decode cX7_goes 78 = .ok (.iconst 0, 1) := by decide +kernel
theorem dX7_goes_79 : decode cX7_goes 79 = .ok (.bastore, 1) := by decide +kernel
theorem dX7_goes_80 : decode cX7_goes 80 = .ok (.iinc 3 1, 3) := by decide +kernel
theorem dX7_goes_83 : decode cX7_goes 83 = .ok (.goto 28, 3) := by decide +kernel
theorem dX7_goes_86 : decode cX7_goes 86 = .ok (.aload_n 0, 1) := by decide +kernel
theorem dX7_goes_87 : decode cX7_goes 87 = .ok (.getfield 7, 3) := by decide +kernel
theorem dX7_goes_90 : decode cX7_goes 90 = .ok (.iload 5, 2) := by decide +kernel
theorem dX7_goes_92 : decode cX7_goes 92 = .ok (.baload, 1) := by decide +kernel
theorem dX7_goes_93 : decode cX7_goes 93 = .ok (.ifCond .ne 18, 3) := by decide +kernel
theorem dX7_goes_96 : decode cX7_goes 96 = .ok (.iload_n 3, 1) := by decide +kernel
theorem dX7_goes_97 : decode cX7_goes 97 = .ok (.ifCond .le 14, 3) := by decide +kernel
theorem dX7_goes_100 : decode cX7_goes 100 = .ok (.aload_n 0, 1) := by decide +kernel
theorem dX7_goes_101 : decode cX7_goes 101 = .ok (.getfield 13, 3) := by decide +kernel
theorem dX7_goes_104 : decode cX7_goes 104 = .ok (.iload 5, 2) := by decide +kernel
theorem dX7_goes_106 : decode cX7_goes 106 = .ok (.iconst 1, 1) := by decide +kernel
theorem dX7_goes_107 : decode cX7_goes 107 = .ok (.bastore, 1) := by decide +kernel
theorem dX7_goes_108 : decode cX7_goes 108 = .ok (.iinc 3 (-1), 3) := by decide +kernel
theorem dX7_goes_111 : decode cX7_goes 111 = .ok (.iinc 4 1, 3) := by decide +kernel
theorem dX7_goes_114 : decode cX7_goes 114 = .ok (.goto (-96), 3) := by decide +kernel
theorem dX7_goes_117 : decode cX7_goes 117 = .ok (.iload_n 3, 1) := by decide +kernel
theorem dX7_goes_118 : decode cX7_goes 118 = .ok (.ifCond .le 8, 3) := by decide +kernel
theorem dX7_goes_121 : decode cX7_goes 121 = .ok (.bipush (-4), 2) := by decide +kernel
theorem dX7_goes_123 : decode cX7_goes 123 = .ok (.goto 7, 3) := by decide +kernel
theorem dX7_goes_126 : decode cX7_goes 126 = .ok (.aload_n 0, 1) := by decide +kernel
theorem dX7_goes_127 : decode cX7_goes 127 = .ok (.invokevirtual 77, 3) := by decide +kernel
theorem dX7_goes_130 : decode cX7_goes 130 = .ok (.ireturn, 1) := by decide +kernel
set_option maxRecDepth 20000 in
theorem ggX7_step_X7_goes : GoodIn wsX7_step wsX7_goes := goodIn_r _ [5, 6, 7, 8, 9, 4, 10, 11, 12, 13, 14, 15, 16, 17, 18, 19, 20, 21, 22, 23, 24, 25, 26, 27, 28, 29, 30, 31, 32, 33, 34, 35, 36, 37] (by decide +kernel) (by decide +kernel)
set_option maxRecDepth 20000 in
theorem gX7_step_X7_goes : GoodIn wsX7_step (wsV RX7 80 RX7 yX7_goes wsX7_goes) := goodIn_app (goodIn_of _ (by decide +kernel)) ggX7_step_X7_goes
theorem dX7_step_0 : decode cX7_step 0 = .ok (.aload_n 0, 1) := by decide +kernel
theorem dX7_step_1 : decode cX7_step 1 = .ok (.iload_n 1, 1) := by decide +kernel
theorem dX7_step_2 : decode cX7_step 2 = .ok (.iconst 0, 1) := by decide +kernel
theorem dX7_step_3 : decode cX7_step 3 = .ok (.invokevirtual 80, 3) := by decide +kernel
theorem dX7_step_6 : decode cX7_step 6 = .ok (.ireturn, 1) := by decide +kernel
set_option maxRecDepth 20000 in
theorem ggX7_back_X7_goes : GoodIn wsX7_back wsX7_goes := goodIn_r _ [5, 6, 7, 8, 9, 4, 10, 11, 12, 13, 14, 15, 16, 17, 18, 19, 20, 21, 22, 23, 24, 25, 26, 27, 28, 29, 30, 31, 32, 33, 34, 35, 36, 37] (by decide +kernel) (by decide +kernel)
set_option maxRecDepth 20000 in
theorem gX7_back_X7_goes : GoodIn wsX7_back (wsV RX7 80 RX7 yX7_goes wsX7_goes) := goodIn_app (goodIn_of _ (by decide +kernel)) ggX7_back_X7_goes
theorem dX7_back_0 : decode cX7_back 0 = .ok (.aload_n 0, 1) := by decide +kernel
theorem dX7_back_1 : decode cX7_back 1 = .ok (.iload_n 1, 1) := by decide +kernel
theorem dX7_back_2 : decode cX7_back 2 = .ok (.iconst 1, 1) := by decide +kernel
theorem dX7_back_3 : decode cX7_back 3 = .ok (.invokevirtual 80, 3) := by decide +kernel
theorem dX7_back_6 : decode cX7_back 6 = .ok (.ireturn, 1) := by decide +kernel
set_option maxRecDepth 20000 in
theorem ggX7_kept_X7_in : GoodIn wsX7_kept wsX7_in := goodIn_r _ [5] (by decide +kernel) (by decide +kernel)
set_option maxRecDepth 20000 in
theorem gX7_kept_X7_in : GoodIn wsX7_kept (va_wsS RX7 66 yX7_in wsX7_in) := goodIn_app (goodIn_of _ (by decide +kernel)) ggX7_kept_X7_in
theorem dX7_kept_0 : decode cX7_kept 0 = .ok (.iload_n 1, 1) := by decide +kernel
theorem dX7_kept_1 : decode cX7_kept 1 = .ok (.iconst 1, 1) := by decide +kernel
theorem dX7_kept_2 : decode cX7_kept 2 = .ok (.bipush 50, 2) := by decide +kernel
theorem dX7_kept_4 : decode cX7_kept 4 = .ok (.invokestatic 66, 3) := by decide +kernel
theorem dX7_kept_7 : decode cX7_kept 7 = .ok (.ifCond .ne 6, 3) := by decide +kernel
theorem dX7_kept_10 : decode cX7_kept 10 = .ok (.bipush (-2), 2) := by decide +kernel
theorem dX7_kept_12 : decode cX7_kept 12 = .ok (.ireturn, 1) := by decide +kernel
theorem dX7_kept_13 : decode cX7_kept 13 = .ok (.iconst 0, 1) := by decide +kernel
theorem dX7_kept_14 : decode cX7_kept 14 = .ok (.istore_n 2, 1) := by decide +kernel
theorem dX7_kept_15 : decode cX7_kept 15 = .ok (.iconst 0, 1) := by decide +kernel
theorem dX7_kept_16 : decode cX7_kept 16 = .ok (.istore_n 3, 1) := by decide +kernel
theorem dX7_kept_17 : decode cX7_kept 17 = .ok (.iconst 0, 1) := by decide +kernel
theorem dX7_kept_18 : decode cX7_kept 18 = .ok (.istore 4, 2) := by decide +kernel
theorem dX7_kept_20 : decode cX7_kept 20 = .ok (.iload 4, 2) := by decide +kernel
theorem dX7_kept_22 : decode cX7_kept 22 = .ok (.sipush 240, 3) := by decide +kernel
theorem dX7_kept_25 : decode cX7_kept 25 = .ok (.if_icmp .ge 50, 3) := by decide +kernel
theorem dX7_kept_28 : decode cX7_kept 28 = .ok (.aload_n 0, 1) := by decide +kernel
theorem dX7_kept_29 : decode cX7_kept 29 = .ok (.getfield 7, 3) := by decide +kernel
theorem dX7_kept_32 : decode cX7_kept 32 = .ok (.iload 4, 2) := by decide +kernel
theorem dX7_kept_34 : decode cX7_kept 34 = .ok (.baload, 1) := by decide +kernel
theorem dX7_kept_35 : decode cX7_kept 35 = .ok (.ifCond .eq 17, 3) := by decide +kernel
theorem dX7_kept_38 : decode cX7_kept 38 = .ok (.iload_n 2, 1) := by decide +kernel
theorem dX7_kept_39 : decode cX7_kept 39 = .ok (.iload_n 1, 1) := by decide +kernel
theorem dX7_kept_40 : decode cX7_kept 40 = .ok (.if_icmp .ge 12, 3) := by decide +kernel
theorem dX7_kept_43 : decode cX7_kept 43 = .ok (.iinc 2 1, 3) := by decide +kernel
theorem dX7_kept_46 : decode cX7_kept 46 = .ok (.iinc 3 1, 3) := by decide +kernel
theorem dX7_kept_49 : decode cX7_kept 49 = .ok (.goto 20, 3) := by decide +kernel
theorem dX7_kept_52 : decode cX7_kept 52 = .ok (.aload_n 0, 1) := by decide +kernel
theorem dX7_kept_53 : decode cX7_kept 53 = .ok (.getfield 7, 3) := by decide +kernel
theorem dX7_kept_56 : decode cX7_kept 56 = .ok (.iload 4, 2) := by decide +kernel
theorem dX7_kept_58 : decode cX7_kept 58 = .ok (.baload, 1) := by decide +kernel
theorem dX7_kept_59 : decode cX7_kept 59 = .ok (.ifCond .ne 10, 3) := by decide +kernel
theorem dX7_kept_62 : decode cX7_kept 62 = .ok (.iload_n 2, 1) := by decide +kernel
theorem dX7_kept_63 : decode cX7_kept 63 = .ok (.ifCond .le 6, 3) := by decide +kernel
theorem dX7_kept_66 : decode cX7_kept 66 = .ok (.iinc 2 (-1), 3) := by decide +kernel
theorem dX7_kept_69 : decode cX7_kept 69 = .ok (.iinc 4 1, 3) := by decide +kernel
theorem dX7_kept_72 : decode cX7_kept 72 = .ok (.goto (-52), 3) := by decide +kernel
theorem dX7_kept_75 : decode cX7_kept 75 = .ok (.iload_n 3, 1) := by decide +kernel
theorem dX7_kept_76 : decode cX7_kept 76 = .ok (.ireturn, 1) := by decide +kernel
set_option maxRecDepth 20000 in
theorem ggX7_pairRounds_X7_balls : GoodIn wsX7_pairRounds wsX7_balls := goodIn_r _ [8, 2, 9, 10, 11, 12, 13, 14, 15, 16, 17, 18, 19, 20, 21, 22, 23, 24, 25, 26, 27, 28, 29, 30] (by decide +kernel) (by decide +kernel)
set_option maxRecDepth 20000 in
theorem gX7_pairRounds_X7_balls : GoodIn wsX7_pairRounds (wsV RX7 70 RX7 yX7_balls wsX7_balls) := goodIn_app (goodIn_of _ (by decide +kernel)) ggX7_pairRounds_X7_balls
theorem dX7_pairRounds_0 : decode cX7_pairRounds 0 = .ok (.sipush 240, 3) := by decide +kernel
theorem dX7_pairRounds_3 : decode cX7_pairRounds 3 = .ok (.istore_n 1, 1) := by decide +kernel
theorem dX7_pairRounds_4 : decode cX7_pairRounds 4 = .ok (.aload_n 0, 1) := by decide +kernel
theorem dX7_pairRounds_5 : decode cX7_pairRounds 5 = .ok (.invokevirtual 70, 3) := by decide +kernel
theorem dX7_pairRounds_8 : decode cX7_pairRounds 8 = .ok (.istore_n 2, 1) := by decide +kernel
theorem dX7_pairRounds_9 : decode cX7_pairRounds 9 = .ok (.iconst 0, 1) := by decide +kernel
theorem dX7_pairRounds_10 : decode cX7_pairRounds 10 = .ok (.istore_n 3, 1) := by decide +kernel
theorem dX7_pairRounds_11 : decode cX7_pairRounds 11 = .ok (.iconst 0, 1) := by decide +kernel
theorem dX7_pairRounds_12 : decode cX7_pairRounds 12 = .ok (.istore 4, 2) := by decide +kernel
theorem dX7_pairRounds_14 : decode cX7_pairRounds 14 = .ok (.iload 4, 2) := by decide +kernel
theorem dX7_pairRounds_16 : decode cX7_pairRounds 16 = .ok (.sipush 240, 3) := by decide +kernel
theorem dX7_pairRounds_19 : decode cX7_pairRounds 19 = .ok (.if_icmp .ge 23, 3) := by decide +kernel
theorem dX7_pairRounds_22 : decode cX7_pairRounds 22 = .ok (.aload_n 0, 1) := by decide +kernel
theorem dX7_pairRounds_23 : decode cX7_pairRounds 23 = .ok (.getfield 16, 3) := by decide +kernel
theorem dX7_pairRounds_26 : decode cX7_pairRounds 26 = .ok (.iload 4, 2) := by decide +kernel
theorem dX7_pairRounds_28 : decode cX7_pairRounds 28 = .ok (.aload_n 0, 1) := by decide +kernel
theorem dX7_pairRounds_29 : decode cX7_pairRounds 29 = .ok (.getfield 7, 3) := by decide +kernel
theorem dX7_pairRounds_32 : decode cX7_pairRounds 32 = .ok (.iload 4, 2) := by decide +kernel
theorem dX7_pairRounds_34 : decode cX7_pairRounds 34 = .ok (.baload, 1) := by decide +kernel
theorem dX7_pairRounds_35 : decode cX7_pairRounds 35 = .ok (.bastore, 1) := by decide +kernel
theorem dX7_pairRounds_36 : decode cX7_pairRounds 36 = .ok (.iinc 4 1, 3) := by decide +kernel
theorem dX7_pairRounds_39 : decode cX7_pairRounds 39 = .ok (.goto (-25), 3) := by decide +kernel
theorem dX7_pairRounds_42 : decode cX7_pairRounds 42 = .ok (.iload_n 2, 1) := by decide +kernel
theorem dX7_pairRounds_43 : decode cX7_pairRounds 43 = .ok (.ifCond .le 109, 3) := by decide +kernel
theorem dX7_pairRounds_46 : decode cX7_pairRounds 46 = .ok (.iconst 0, 1) := by decide +kernel
theorem dX7_pairRounds_47 : decode cX7_pairRounds 47 = .ok (.istore 4, 2) := by decide +kernel
theorem dX7_pairRounds_49 : decode cX7_pairRounds 49 = .ok (.aload_n 0, 1) := by decide +kernel
theorem dX7_pairRounds_50 : decode cX7_pairRounds 50 = .ok (.getfield 19, 3) := by decide +kernel
theorem dX7_pairRounds_53 : decode cX7_pairRounds 53 = .ok (.iload_n 3, 1) := by decide +kernel
theorem dX7_pairRounds_54 : decode cX7_pairRounds 54 = .ok (.iconst 0, 1) := by decide +kernel
theorem dX7_pairRounds_55 : decode cX7_pairRounds 55 = .ok (.iastore, 1) := by decide +kernel
theorem dX7_pairRounds_56 : decode cX7_pairRounds 56 = .ok (.iconst 0, 1) := by decide +kernel
theorem dX7_pairRounds_57 : decode cX7_pairRounds 57 = .ok (.istore 5, 2) := by decide +kernel
theorem dX7_pairRounds_59 : decode cX7_pairRounds 59 = .ok (.iload 5, 2) := by decide +kernel
theorem dX7_pairRounds_61 : decode cX7_pairRounds 61 = .ok (.iload_n 1, 1) := by decide +kernel
theorem dX7_pairRounds_62 : decode cX7_pairRounds 62 = .ok (.if_icmp .ge 72, 3) := by decide +kernel
theorem dX7_pairRounds_65 : decode cX7_pairRounds 65 = .ok (.aload_n 0, 1) := by decide +kernel
theorem dX7_pairRounds_66 : decode cX7_pairRounds 66 = .ok (.getfield 16, 3) := by decide +kernel
theorem dX7_pairRounds_69 : decode cX7_pairRounds 69 = .ok (.iload 5, 2) := by decide +kernel
theorem dX7_pairRounds_71 : decode cX7_pairRounds 71 = .ok (.baload, 1) := by decide +kernel
theorem dX7_pairRounds_72 : decode cX7_pairRounds 72 = .ok (.ifCond .eq 39, 3) := by decide +kernel
theorem dX7_pairRounds_75 : decode cX7_pairRounds 75 = .ok (.iload 5, 2) := by decide +kernel
theorem dX7_pairRounds_77 : decode cX7_pairRounds 77 = .ok (.iconst 1, 1) := by decide +kernel
theorem dX7_pairRounds_78 : decode cX7_pairRounds 78 = .ok (.iadd, 1) := by decide +kernel
theorem dX7_pairRounds_79 : decode cX7_pairRounds 79 = .ok (.iload_n 1, 1) := by decide +kernel
theorem dX7_pairRounds_80 : decode cX7_pairRounds 80 = .ok (.if_icmp .eq 15, 3) := by decide +kernel
theorem dX7_pairRounds_83 : decode cX7_pairRounds 83 = .ok (.aload_n 0, 1) := by decide +kernel
theorem dX7_pairRounds_84 : decode cX7_pairRounds 84 = .ok (.getfield 16, 3) := by decide +kernel
theorem dX7_pairRounds_87 : decode cX7_pairRounds 87 = .ok (.iload 5, 2) := by decide +kernel
theorem dX7_pairRounds_89 : decode cX7_pairRounds 89 = .ok (.iconst 1, 1) := by decide +kernel
theorem dX7_pairRounds_90 : decode cX7_pairRounds 90 = .ok (.iadd, 1) := by decide +kernel
theorem dX7_pairRounds_91 : decode cX7_pairRounds 91 = .ok (.baload, 1) := by decide +kernel
theorem dX7_pairRounds_92 : decode cX7_pairRounds 92 = .ok (.ifCond .ne 19, 3) := by decide +kernel
theorem dX7_pairRounds_95 : decode cX7_pairRounds 95 = .ok (.aload_n 0, 1) := by decide +kernel
theorem dX7_pairRounds_96 : decode cX7_pairRounds 96 = .ok (.getfield 19, 3) := by decide +kernel
theorem dX7_pairRounds_99 : decode cX7_pairRounds 99 = .ok (.iload_n 3, 1) := by decide +kernel
theorem dX7_pairRounds_100 : decode cX7_pairRounds 100 = .ok (.dup2, 1) := by decide +kernel
theorem dX7_pairRounds_101 : decode cX7_pairRounds 101 = .ok (.iaload, 1) := by decide +kernel
theorem dX7_pairRounds_102 : decode cX7_pairRounds 102 = .ok (.iconst 1, 1) := by decide +kernel
theorem dX7_pairRounds_103 : decode cX7_pairRounds 103 = .ok (.iadd, 1) := by decide +kernel
theorem dX7_pairRounds_104 : decode cX7_pairRounds 104 = .ok (.iastore, 1) := by decide +kernel
theorem dX7_pairRounds_105 : decode cX7_pairRounds 105 = .ok (.iinc 5 2, 3) := by decide +kernel
theorem dX7_pairRounds_108 : decode cX7_pairRounds 108 = .ok (.goto (-49), 3) := by decide +kernel
theorem dX7_pairRounds_111 : decode cX7_pairRounds 111 = .ok (.aload_n 0, 1) := by decide +kernel
theorem dX7_pairRounds_112 : decode cX7_pairRounds 112 = .ok (.getfield 16, 3) := by decide +kernel
theorem dX7_pairRounds_115 : decode cX7_pairRounds 115 = .ok (.iload 4, 2) := by decide +kernel
theorem dX7_pairRounds_117 : decode cX7_pairRounds 117 = .ok (.aload_n 0, 1) := by decide +kernel
theorem dX7_pairRounds_118 : decode cX7_pairRounds 118 = .ok (.getfield 16, 3) := by decide +kernel
theorem dX7_pairRounds_121 : decode cX7_pairRounds 121 = .ok (.iload 5, 2) := by decide +kernel
theorem dX7_pairRounds_123 : decode cX7_pairRounds 123 = .ok (.baload, 1) := by decide +kernel
theorem dX7_pairRounds_124 : decode cX7_pairRounds 124 = .ok (.bastore, 1) := by decide +kernel
theorem dX7_pairRounds_125 : decode cX7_pairRounds 125 = .ok (.iinc 4 1, 3) := by decide +kernel
theorem dX7_pairRounds_128 : decode cX7_pairRounds 128 = .ok (.iinc 5 1, 3) := by decide +kernel
theorem dX7_pairRounds_131 : decode cX7_pairRounds 131 = .ok (.goto (-72), 3) := by decide +kernel
theorem dX7_pairRounds_134 : decode cX7_pairRounds 134 = .ok (.iload_n 2, 1) := by decide +kernel
theorem dX7_pairRounds_135 : decode cX7_pairRounds 135 = .ok (.aload_n 0, 1) := by decide +kernel
theorem dX7_pairRounds_136 : decode cX7_pairRounds 136 = .ok (.getfield 19, 3) := by decide +kernel
theorem dX7_pairRounds_139 : decode cX7_pairRounds 139 = .ok (.iload_n 3, 1) := by decide +kernel
theorem dX7_pairRounds_140 : decode cX7_pairRounds 140 = .ok (.iaload, 1) := by decide +kernel
theorem dX7_pairRounds_141 : decode cX7_pairRounds 141 = .ok (.isub, 1) := by decide +kernel
theorem dX7_pairRounds_142 : decode cX7_pairRounds 142 = .ok (.istore_n 2, 1) := by decide +kernel
theorem dX7_pairRounds_143 : decode cX7_pairRounds 143 = .ok (.iload 4, 2) := by decide +kernel
theorem dX7_pairRounds_145 : decode cX7_pairRounds 145 = .ok (.istore_n 1, 1) := by decide +kernel
theorem dX7_pairRounds_146 : decode cX7_pairRounds 146 = .ok (.iinc 3 1, 3) := by decide +kernel
theorem dX7_pairRounds_149 : decode cX7_pairRounds 149 = .ok (.goto (-107), 3) := by decide +kernel
theorem dX7_pairRounds_152 : decode cX7_pairRounds 152 = .ok (.iload_n 3, 1) := by decide +kernel
theorem dX7_pairRounds_153 : decode cX7_pairRounds 153 = .ok (.ireturn, 1) := by decide +kernel
set_option maxRecDepth 20000 in
theorem ggX7_row_X7_balls : GoodIn wsX7_row wsX7_balls := goodIn_r _ [7, 1, 13, 14, 15, 16, 17, 18, 19, 20, 21, 22, 23, 24, 25, 26, 27, 28, 29, 30, 31, 32, 33, 34] (by decide +kernel) (by decide +kernel)
set_option maxRecDepth 20000 in
theorem gX7_row_X7_balls : GoodIn wsX7_row (wsV RX7 70 RX7 yX7_balls wsX7_balls) := goodIn_app (goodIn_of _ (by decide +kernel)) ggX7_row_X7_balls
set_option maxRecDepth 20000 in
theorem ggX7_row_X7_pairRounds : GoodIn wsX7_row wsX7_pairRounds := goodIn_r _ [11, 12, 1, 2, 3, 4, 5, 6, 7, 13, 14, 15, 16, 17, 18, 19, 20, 21, 22, 23, 24, 25, 26, 27, 28, 29, 30, 31, 32, 33, 34] (by decide +kernel) (by decide +kernel)
set_option maxRecDepth 20000 in
theorem gX7_row_X7_pairRounds : GoodIn wsX7_row (wsV RX7 84 RX7 yX7_pairRounds wsX7_pairRounds) := goodIn_app (goodIn_of _ (by decide +kernel)) ggX7_row_X7_pairRounds
theorem dX7_row_0 : decode cX7_row 0 = .ok (.iconst (-1), 1) := by decide +kernel
theorem dX7_row_1 : decode cX7_row 1 = .ok (.istore_n 2, 1) := by decide +kernel
theorem dX7_row_2 : decode cX7_row 2 = .ok (.iconst (-1), 1) := by decide +kernel
theorem dX7_row_3 : decode cX7_row 3 = .ok (.istore_n 3, 1) := by decide +kernel
theorem dX7_row_4 : decode cX7_row 4 = .ok (.iconst 0, 1) := by decide +kernel
theorem dX7_row_5 : decode cX7_row 5 = .ok (.istore 4, 2) := by decide +kernel
theorem dX7_row_7 : decode cX7_row 7 = .ok (.iload 4, 2) := by decide +kernel
theorem dX7_row_9 : decode cX7_row 9 = .ok (.sipush 240, 3) := by decide +kernel
theorem dX7_row_12 : decode cX7_row 12 = .ok (.if_icmp .ge 48, 3) := by decide +kernel
theorem dX7_row_15 : decode cX7_row 15 = .ok (.iload_n 2, 1) := by decide +kernel
theorem dX7_row_16 : decode cX7_row 16 = .ok (.iconst (-1), 1) := by decide +kernel
theorem dX7_row_17 : decode cX7_row 17 = .ok (.if_icmp .ne 18, 3) := by decide +kernel
theorem dX7_row_20 : decode cX7_row 20 = .ok (.aload_n 0, 1) := by decide +kernel
theorem dX7_row_21 : decode cX7_row 21 = .ok (.getfield 7, 3) := by decide +kernel
theorem dX7_row_24 : decode cX7_row 24 = .ok (.iload 4, 2) := by decide +kernel
theorem dX7_row_26 : decode cX7_row 26 = .ok (.baload, 1) := by decide +kernel
theorem dX7_row_27 : decode cX7_row 27 = .ok (.ifCond .eq 8, 3) := by decide +kernel
theorem dX7_row_30 : decode cX7_row 30 = .ok (.iload 4, 2) := by decide +kernel
theorem dX7_row_32 : decode cX7_row 32 = .ok (.goto 4, 3) := by decide +kernel
theorem dX7_row_35 : decode cX7_row 35 = .ok (.iload_n 2, 1) := by decide +kernel
theorem dX7_row_36 : decode cX7_row 36 = .ok (.istore_n 2, 1) := by decide +kernel
theorem dX7_row_37 : decode cX7_row 37 = .ok (.aload_n 0, 1) := by decide +kernel
theorem dX7_row_38 : decode cX7_row 38 = .ok (.getfield 7, 3) := by decide +kernel
theorem dX7_row_41 : decode cX7_row 41 = .ok (.iload 4, 2) := by decide +kernel
theorem dX7_row_43 : decode cX7_row 43 = .ok (.baload, 1) := by decide +kernel
theorem dX7_row_44 : decode cX7_row 44 = .ok (.ifCond .eq 8, 3) := by decide +kernel
theorem dX7_row_47 : decode cX7_row 47 = .ok (.iload 4, 2) := by decide +kernel
theorem dX7_row_49 : decode cX7_row 49 = .ok (.goto 4, 3) := by decide +kernel
theorem dX7_row_52 : decode cX7_row 52 = .ok (.iload_n 3, 1) := by decide +kernel
theorem dX7_row_53 : decode cX7_row 53 = .ok (.istore_n 3, 1) := by decide +kernel
theorem dX7_row_54 : decode cX7_row 54 = .ok (.iinc 4 1, 3) := by decide +kernel
theorem dX7_row_57 : decode cX7_row 57 = .ok (.goto (-50), 3) := by decide +kernel
theorem dX7_row_60 : decode cX7_row 60 = .ok (.iload_n 1, 1) := by decide +kernel
theorem dX7_row_61 : decode cX7_row 61 = .ok (.tableswitch 58 0 3 #[31, 36, 38, 40], 31) := by decide +kernel
theorem dX7_row_92 : decode cX7_row 92 = .ok (.aload_n 0, 1) := by decide +kernel
theorem dX7_row_93 : decode cX7_row 93 = .ok (.invokevirtual 70, 3) := by decide +kernel
theorem dX7_row_96 : decode cX7_row 96 = .ok (.ireturn, 1) := by decide +kernel
theorem dX7_row_97 : decode cX7_row 97 = .ok (.iload_n 2, 1) := by decide +kernel
theorem dX7_row_98 : decode cX7_row 98 = .ok (.ireturn, 1) := by decide +kernel
theorem dX7_row_99 : decode cX7_row 99 = .ok (.iload_n 3, 1) := by decide +kernel
theorem dX7_row_100 : decode cX7_row 100 = .ok (.ireturn, 1) := by decide +kernel
theorem dX7_row_101 : decode cX7_row 101 = .ok (.aload_n 0, 1) := by decide +kernel
theorem dX7_row_102 : decode cX7_row 102 = .ok (.invokevirtual 84, 3) := by decide +kernel
theorem dX7_row_105 : decode cX7_row 105 = .ok (.ifCond .ne 7, 3) := by decide +kernel
theorem dX7_row_108 : decode cX7_row 108 = .ok (.iconst 0, 1) := by decide +kernel
theorem dX7_row_109 : decode cX7_row 109 = .ok (.goto 9, 3) := by decide +kernel
theorem dX7_row_112 : decode cX7_row 112 = .ok (.aload_n 0, 1) := by decide +kernel
theorem dX7_row_113 : decode cX7_row 113 = .ok (.getfield 19, 3) := by decide +kernel
theorem dX7_row_116 : decode cX7_row 116 = .ok (.iconst 0, 1) := by decide +kernel
theorem dX7_row_117 : decode cX7_row 117 = .ok (.iaload, 1) := by decide +kernel
theorem dX7_row_118 : decode cX7_row 118 = .ok (.ireturn, 1) := by decide +kernel
theorem dX7_row_119 : decode cX7_row 119 = .ok (.bipush (-2), 2) := by decide +kernel
theorem dX7_row_121 : decode cX7_row 121 = .ok (.ireturn, 1) := by decide +kernel
set_option maxRecDepth 20000 in
theorem ggX7_heap_X7_pairRounds : GoodIn wsX7_heap wsX7_pairRounds := goodIn_r _ [6, 7, 8, 1, 9, 10, 11, 5, 12, 16, 17, 18, 19, 20, 21, 22, 23, 24, 25, 26, 27, 28, 29, 30, 31, 32, 33, 34, 35, 36, 37] (by decide +kernel) (by decide +kernel)
set_option maxRecDepth 20000 in
theorem gX7_heap_X7_pairRounds : GoodIn wsX7_heap (wsV RX7 84 RX7 yX7_pairRounds wsX7_pairRounds) := goodIn_app (goodIn_of _ (by decide +kernel)) ggX7_heap_X7_pairRounds
set_option maxRecDepth 20000 in
theorem ggX7_heap_X7_in : GoodIn wsX7_heap wsX7_in := goodIn_r _ [15] (by decide +kernel) (by decide +kernel)
set_option maxRecDepth 20000 in
theorem gX7_heap_X7_in : GoodIn wsX7_heap (va_wsS RX7 66 yX7_in wsX7_in) := goodIn_app (goodIn_of _ (by decide +kernel)) ggX7_heap_X7_in
theorem dX7_heap_0 : decode cX7_heap 0 = .ok (.aload_n 0, 1) := by decide +kernel
theorem dX7_heap_1 : decode cX7_heap 1 = .ok (.invokevirtual 84, 3) := by decide +kernel
theorem dX7_heap_4 : decode cX7_heap 4 = .ok (.istore_n 2, 1) := by decide +kernel
theorem dX7_heap_5 : decode cX7_heap 5 = .ok (.iload_n 2, 1) := by decide +kernel
theorem dX7_heap_6 : decode cX7_heap 6 = .ok (.ifCond .eq 19, 3) := by decide +kernel
theorem dX7_heap_9 : decode cX7_heap 9 = .ok (.iload_n 1, 1) := by decide +kernel
theorem dX7_heap_10 : decode cX7_heap 10 = .ok (.iconst 0, 1) := by decide +kernel
theorem dX7_heap_11 : decode cX7_heap 11 = .ok (.aload_n 0, 1) := by decide +kernel
theorem dX7_heap_12 : decode cX7_heap 12 = .ok (.getfield 19, 3) := by decide +kernel
theorem dX7_heap_15 : decode cX7_heap 15 = .ok (.iconst 0, 1) := by decide +kernel
theorem dX7_heap_16 : decode cX7_heap 16 = .ok (.iaload, 1) := by decide +kernel
theorem dX7_heap_17 : decode cX7_heap 17 = .ok (.iconst 1, 1) := by decide +kernel
theorem dX7_heap_18 : decode cX7_heap 18 = .ok (.isub, 1) := by decide +kernel
theorem dX7_heap_19 : decode cX7_heap 19 = .ok (.invokestatic 66, 3) := by decide +kernel
theorem dX7_heap_22 : decode cX7_heap 22 = .ok (.ifCond .ne 6, 3) := by decide +kernel
theorem dX7_heap_25 : decode cX7_heap 25 = .ok (.bipush (-2), 2) := by decide +kernel
theorem dX7_heap_27 : decode cX7_heap 27 = .ok (.ireturn, 1) := by decide +kernel
theorem dX7_heap_28 : decode cX7_heap 28 = .ok (.iconst 0, 1) := by decide +kernel
theorem dX7_heap_29 : decode cX7_heap 29 = .ok (.istore_n 3, 1) := by decide +kernel
theorem dX7_heap_30 : decode cX7_heap 30 = .ok (.iconst 0, 1) := by decide +kernel
theorem dX7_heap_31 : decode cX7_heap 31 = .ok (.istore 4, 2) := by decide +kernel
theorem dX7_heap_33 : decode cX7_heap 33 = .ok (.iload 4, 2) := by decide +kernel
theorem dX7_heap_35 : decode cX7_heap 35 = .ok (.iload_n 2, 1) := by decide +kernel
theorem dX7_heap_36 : decode cX7_heap 36 = .ok (.if_icmp .ge 28, 3) := by decide +kernel
theorem dX7_heap_39 : decode cX7_heap 39 = .ok (.iload_n 3, 1) := by decide +kernel
theorem dX7_heap_40 : decode cX7_heap 40 = .ok (.aload_n 0, 1) := by decide +kernel
theorem dX7_heap_41 : decode cX7_heap 41 = .ok (.getfield 19, 3) := by decide +kernel
theorem dX7_heap_44 : decode cX7_heap 44 = .ok (.iload 4, 2) := by decide +kernel
theorem dX7_heap_46 : decode cX7_heap 46 = .ok (.iaload, 1) := by decide +kernel
theorem dX7_heap_47 : decode cX7_heap 47 = .ok (.iload_n 1, 1) := by decide +kernel
theorem dX7_heap_48 : decode cX7_heap 48 = .ok (.if_icmp .le 7, 3) := by decide +kernel
theorem dX7_heap_51 : decode cX7_heap 51 = .ok (.iconst 1, 1) := by decide +kernel
theorem dX7_heap_52 : decode cX7_heap 52 = .ok (.goto 4, 3) := by decide +kernel
theorem dX7_heap_55 : decode cX7_heap 55 = .ok (.iconst 0, 1) := by decide +kernel
theorem dX7_heap_56 : decode cX7_heap 56 = .ok (.iadd, 1) := by decide +kernel
theorem dX7_heap_57 : decode cX7_heap 57 = .ok (.istore_n 3, 1) := by decide +kernel
theorem dX7_heap_58 : decode cX7_heap 58 = .ok (.iinc 4 1, 3) := by decide +kernel
theorem dX7_heap_61 : decode cX7_heap 61 = .ok (.goto (-28), 3) := by decide +kernel
theorem dX7_heap_64 : decode cX7_heap 64 = .ok (.iload_n 3, 1) := by decide +kernel
theorem dX7_heap_65 : decode cX7_heap 65 = .ok (.ireturn, 1) := by decide +kernel
theorem dX7_room_0 : decode cX7_room 0 = .ok (.iconst 0, 1) := by decide +kernel
theorem dX7_room_1 : decode cX7_room 1 = .ok (.istore_n 3, 1) := by decide +kernel
theorem dX7_room_2 : decode cX7_room 2 = .ok (.iconst 0, 1) := by decide +kernel
theorem dX7_room_3 : decode cX7_room 3 = .ok (.istore 4, 2) := by decide +kernel
theorem dX7_room_5 : decode cX7_room 5 = .ok (.iload 4, 2) := by decide +kernel
theorem dX7_room_7 : decode cX7_room 7 = .ok (.aload_n 0, 1) := by decide +kernel
theorem dX7_room_8 : decode cX7_room 8 = .ok (.getfield 87, 3) := by decide +kernel
theorem dX7_room_11 : decode cX7_room 11 = .ok (.if_icmp .ge 34, 3) := by decide +kernel
theorem dX7_room_14 : decode cX7_room 14 = .ok (.iload_n 3, 1) := by decide +kernel
theorem dX7_room_15 : decode cX7_room 15 = .ok (.iload_n 1, 1) := by decide +kernel
theorem dX7_room_16 : decode cX7_room 16 = .ok (.aload_n 0, 1) := by decide +kernel
theorem dX7_room_17 : decode cX7_room 17 = .ok (.getfield 23, 3) := by decide +kernel
theorem dX7_room_20 : decode cX7_room 20 = .ok (.iload 4, 2) := by decide +kernel
theorem dX7_room_22 : decode cX7_room 22 = .ok (.iaload, 1) := by decide +kernel
theorem dX7_room_23 : decode cX7_room 23 = .ok (.if_icmp .ge 7, 3) := by decide +kernel
theorem dX7_room_26 : decode cX7_room 26 = .ok (.iload_n 1, 1) := by decide +kernel
theorem dX7_room_27 : decode cX7_room 27 = .ok (.goto 10, 3) := by decide +kernel
theorem dX7_room_30 : decode cX7_room 30 = .ok (.aload_n 0, 1) := by decide +kernel
theorem dX7_room_31 : decode cX7_room 31 = .ok (.getfield 23, 3) := by decide +kernel
theorem dX7_room_34 : decode cX7_room 34 = .ok (.iload 4, 2) := by decide +kernel
theorem dX7_room_36 : decode cX7_room 36 = .ok (.iaload, 1) := by decide +kernel
theorem dX7_room_37 : decode cX7_room 37 = .ok (.iadd, 1) := by decide +kernel
theorem dX7_room_38 : decode cX7_room 38 = .ok (.istore_n 3, 1) := by decide +kernel
theorem dX7_room_39 : decode cX7_room 39 = .ok (.iinc 4 1, 3) := by decide +kernel
theorem dX7_room_42 : decode cX7_room 42 = .ok (.goto (-37), 3) := by decide +kernel
theorem dX7_room_45 : decode cX7_room 45 = .ok (.iload_n 2, 1) := by decide +kernel
theorem dX7_room_46 : decode cX7_room 46 = .ok (.iconst 2, 1) := by decide +kernel
theorem dX7_room_47 : decode cX7_room 47 = .ok (.iload_n 3, 1) := by decide +kernel
theorem dX7_room_48 : decode cX7_room 48 = .ok (.imul, 1) := by decide +kernel
theorem dX7_room_49 : decode cX7_room 49 = .ok (.isub, 1) := by decide +kernel
theorem dX7_room_50 : decode cX7_room 50 = .ok (.ireturn, 1) := by decide +kernel
set_option maxRecDepth 20000 in
theorem ggX7_tight_X7_room : GoodIn wsX7_tight wsX7_room := goodIn_r _ [8, 1, 3, 9, 10, 11, 12, 13, 14, 15, 16, 17, 18, 19, 20, 21, 22, 23, 24, 25, 26, 27, 28, 29, 30] (by decide +kernel) (by decide +kernel)
set_option maxRecDepth 20000 in
theorem gX7_tight_X7_room : GoodIn wsX7_tight (wsV RX7 90 RX7 yX7_room wsX7_room) := goodIn_app (goodIn_of _ (by decide +kernel)) ggX7_tight_X7_room
theorem dX7_tight_0 : decode cX7_tight 0 = .ok (.iconst (-1), 1) := by decide +kernel
theorem dX7_tight_1 : decode cX7_tight 1 = .ok (.istore_n 3, 1) := by decide +kernel
theorem dX7_tight_2 : decode cX7_tight 2 = .ok (.iconst 0, 1) := by decide +kernel
theorem dX7_tight_3 : decode cX7_tight 3 = .ok (.istore 4, 2) := by decide +kernel
theorem dX7_tight_5 : decode cX7_tight 5 = .ok (.iload 4, 2) := by decide +kernel
theorem dX7_tight_7 : decode cX7_tight 7 = .ok (.aload_n 0, 1) := by decide +kernel
theorem dX7_tight_8 : decode cX7_tight 8 = .ok (.getfield 87, 3) := by decide +kernel
theorem dX7_tight_11 : decode cX7_tight 11 = .ok (.if_icmp .ge 94, 3) := by decide +kernel
theorem dX7_tight_14 : decode cX7_tight 14 = .ok (.aload_n 0, 1) := by decide +kernel
theorem dX7_tight_15 : decode cX7_tight 15 = .ok (.getfield 26, 3) := by decide +kernel
theorem dX7_tight_18 : decode cX7_tight 18 = .ok (.iload 4, 2) := by decide +kernel
theorem dX7_tight_20 : decode cX7_tight 20 = .ok (.iaload, 1) := by decide +kernel
theorem dX7_tight_21 : decode cX7_tight 21 = .ok (.aload_n 0, 1) := by decide +kernel
theorem dX7_tight_22 : decode cX7_tight 22 = .ok (.aload_n 0, 1) := by decide +kernel
theorem dX7_tight_23 : decode cX7_tight 23 = .ok (.getfield 23, 3) := by decide +kernel
theorem dX7_tight_26 : decode cX7_tight 26 = .ok (.iload 4, 2) := by decide +kernel
theorem dX7_tight_28 : decode cX7_tight 28 = .ok (.iaload, 1) := by decide +kernel
theorem dX7_tight_29 : decode cX7_tight 29 = .ok (.iload_n 1, 1) := by decide +kernel
theorem dX7_tight_30 : decode cX7_tight 30 = .ok (.invokevirtual 90, 3) := by decide +kernel
theorem dX7_tight_33 : decode cX7_tight 33 = .ok (.if_icmp .ne 66, 3) := by decide +kernel
theorem dX7_tight_36 : decode cX7_tight 36 = .ok (.iload_n 3, 1) := by decide +kernel
theorem dX7_tight_37 : decode cX7_tight 37 = .ok (.iconst (-1), 1) := by decide +kernel
theorem dX7_tight_38 : decode cX7_tight 38 = .ok (.if_icmp .eq 42, 3) := by decide +kernel
theorem dX7_tight_41 : decode cX7_tight 41 = .ok (.iload_n 2, 1) := by decide +kernel
theorem dX7_tight_42 : decode cX7_tight 42 = .ok (.ifCond .eq 22, 3) := by decide +kernel
theorem dX7_tight_45 : decode cX7_tight 45 = .ok (.aload_n 0, 1) := by decide +kernel
theorem dX7_tight_46 : decode cX7_tight 46 = .ok (.getfield 23, 3) := by decide +kernel
theorem dX7_tight_49 : decode cX7_tight 49 = .ok (.iload 4, 2) := by decide +kernel
theorem dX7_tight_51 : decode cX7_tight 51 = .ok (.iaload, 1) := by decide +kernel
theorem dX7_tight_52 : decode cX7_tight 52 = .ok (.aload_n 0, 1) := by decide +kernel
theorem dX7_tight_53 : decode cX7_tight 53 = .ok (.getfield 23, 3) := by decide +kernel
theorem dX7_tight_56 : decode cX7_tight 56 = .ok (.iload_n 3, 1) := by decide +kernel
theorem dX7_tight_57 : decode cX7_tight 57 = .ok (.iaload, 1) := by decide +kernel
theorem dX7_tight_58 : decode cX7_tight 58 = .ok (.if_icmp .le 26, 3) := by decide +kernel
theorem dX7_tight_61 : decode cX7_tight 61 = .ok (.goto 19, 3) := by decide +kernel
theorem dX7_tight_64 : decode cX7_tight 64 = .ok (.aload_n 0, 1) := by decide +kernel
theorem dX7_tight_65 : decode cX7_tight 65 = .ok (.getfield 23, 3) := by decide +kernel
theorem dX7_tight_68 : decode cX7_tight 68 = .ok (.iload 4, 2) := by decide +kernel
theorem dX7_tight_70 : decode cX7_tight 70 = .ok (.iaload, 1) := by decide +kernel
theorem dX7_tight_71 : decode cX7_tight 71 = .ok (.aload_n 0, 1) := by decide +kernel
theorem dX7_tight_72 : decode cX7_tight 72 = .ok (.getfield 23, 3) := by decide +kernel
theorem dX7_tight_75 : decode cX7_tight 75 = .ok (.iload_n 3, 1) := by decide +kernel
theorem dX7_tight_76 : decode cX7_tight 76 = .ok (.iaload, 1) := by decide +kernel
theorem dX7_tight_77 : decode cX7_tight 77 = .ok (.if_icmp .ge 7, 3) := by decide +kernel
theorem dX7_tight_80 : decode cX7_tight 80 = .ok (.iconst 1, 1) := by decide +kernel
theorem dX7_tight_81 : decode cX7_tight 81 = .ok (.goto 4, 3) := by decide +kernel
theorem dX7_tight_84 : decode cX7_tight 84 = .ok (.iconst 0, 1) := by decide +kernel
theorem dX7_tight_85 : decode cX7_tight 85 = .ok (.istore 5, 2) := by decide +kernel
theorem dX7_tight_87 : decode cX7_tight 87 = .ok (.iload 5, 2) := by decide +kernel
theorem dX7_tight_89 : decode cX7_tight 89 = .ok (.ifCond .eq 8, 3) := by decide +kernel
theorem dX7_tight_92 : decode cX7_tight 92 = .ok (.iload 4, 2) := by decide +kernel
theorem dX7_tight_94 : decode cX7_tight 94 = .ok (.goto 4, 3) := by decide +kernel
theorem dX7_tight_97 : decode cX7_tight 97 = .ok (.iload_n 3, 1) := by decide +kernel
theorem dX7_tight_98 : decode cX7_tight 98 = .ok (.istore_n 3, 1) := by decide +kernel
theorem dX7_tight_99 : decode cX7_tight 99 = .ok (.iinc 4 1, 3) := by decide +kernel
theorem dX7_tight_102 : decode cX7_tight 102 = .ok (.goto (-97), 3) := by decide +kernel
theorem dX7_tight_105 : decode cX7_tight 105 = .ok (.iload_n 3, 1) := by decide +kernel
theorem dX7_tight_106 : decode cX7_tight 106 = .ok (.ireturn, 1) := by decide +kernel
set_option maxRecDepth 20000 in
theorem ggX7_reads_X7_tight : GoodIn wsX7_reads wsX7_tight := goodIn_r _ [9, 1, 4, 3, 10, 11, 12, 8, 13, 14, 15, 16, 17, 18, 19, 20, 21, 22, 23, 24, 25, 26, 27, 28, 29, 30, 31, 32, 33, 34, 35] (by decide +kernel) (by decide +kernel)
set_option maxRecDepth 20000 in
theorem gX7_reads_X7_tight : GoodIn wsX7_reads (wsV RX7 94 RX7 yX7_tight wsX7_tight) := goodIn_app (goodIn_of _ (by decide +kernel)) ggX7_reads_X7_tight
set_option maxRecDepth 20000 in
theorem ggX7_reads_X7_room : GoodIn wsX7_reads wsX7_room := goodIn_r _ [13, 1, 3, 14, 15, 16, 17, 18, 19, 20, 21, 22, 23, 24, 25, 26, 27, 28, 29, 30, 31, 32, 33, 34, 35] (by decide +kernel) (by decide +kernel)
set_option maxRecDepth 20000 in
theorem gX7_reads_X7_room : GoodIn wsX7_reads (wsV RX7 90 RX7 yX7_room wsX7_room) := goodIn_app (goodIn_of _ (by decide +kernel)) ggX7_reads_X7_room
theorem dX7_reads_0 : decode cX7_reads 0 = .ok (.aload_n 0, 1) := by decide +kernel
theorem dX7_reads_1 : decode cX7_reads 1 = .ok (.iconst 0, 1) := by decide +kernel
theorem dX7_reads_2 : decode cX7_reads 2 = .ok (.putfield 87, 3) := by decide +kernel
theorem dX7_reads_5 : decode cX7_reads 5 = .ok (.iconst 0, 1) := by decide +kernel
theorem dX7_reads_6 : decode cX7_reads 6 = .ok (.istore_n 2, 1) := by decide +kernel
theorem dX7_reads_7 : decode cX7_reads 7 = .ok (.iload_n 2, 1) := by decide +kernel
theorem dX7_reads_8 : decode cX7_reads 8 = .ok (.iload_n 1, 1) := by decide +kernel
theorem dX7_reads_9 : decode cX7_reads 9 = .ok (.if_icmp .ge 81, 3) := by decide +kernel
theorem dX7_reads_12 : decode cX7_reads 12 = .ok (.aload_n 0, 1) := by decide +kernel
theorem dX7_reads_13 : decode cX7_reads 13 = .ok (.getfield 7, 3) := by decide +kernel
theorem dX7_reads_16 : decode cX7_reads 16 = .ok (.iload_n 2, 1) := by decide +kernel
theorem dX7_reads_17 : decode cX7_reads 17 = .ok (.baload, 1) := by decide +kernel
theorem dX7_reads_18 : decode cX7_reads 18 = .ok (.ifCond .eq 66, 3) := by decide +kernel
theorem dX7_reads_21 : decode cX7_reads 21 = .ok (.aload_n 0, 1) := by decide +kernel
theorem dX7_reads_22 : decode cX7_reads 22 = .ok (.iload_n 2, 1) := by decide +kernel
theorem dX7_reads_23 : decode cX7_reads 23 = .ok (.iconst 1, 1) := by decide +kernel
theorem dX7_reads_24 : decode cX7_reads 24 = .ok (.invokevirtual 94, 3) := by decide +kernel
theorem dX7_reads_27 : decode cX7_reads 27 = .ok (.istore_n 3, 1) := by decide +kernel
theorem dX7_reads_28 : decode cX7_reads 28 = .ok (.iload_n 3, 1) := by decide +kernel
theorem dX7_reads_29 : decode cX7_reads 29 = .ok (.iconst (-1), 1) := by decide +kernel
theorem dX7_reads_30 : decode cX7_reads 30 = .ok (.if_icmp .ne 25, 3) := by decide +kernel
theorem dX7_reads_33 : decode cX7_reads 33 = .ok (.aload_n 0, 1) := by decide +kernel
theorem dX7_reads_34 : decode cX7_reads 34 = .ok (.getfield 87, 3) := by decide +kernel
theorem dX7_reads_37 : decode cX7_reads 37 = .ok (.istore_n 3, 1) := by decide +kernel
theorem dX7_reads_38 : decode cX7_reads 38 = .ok (.aload_n 0, 1) := by decide +kernel
theorem dX7_reads_39 : decode cX7_reads 39 = .ok (.getfield 23, 3) := by decide +kernel
theorem dX7_reads_42 : decode cX7_reads 42 = .ok (.iload_n 3, 1) := by decide +kernel
theorem dX7_reads_43 : decode cX7_reads 43 = .ok (.iconst 0, 1) := by decide +kernel
theorem dX7_reads_44 : decode cX7_reads 44 = .ok (.iastore, 1) := by decide +kernel
theorem dX7_reads_45 : decode cX7_reads 45 = .ok (.aload_n 0, 1) := by decide +kernel
theorem dX7_reads_46 : decode cX7_reads 46 = .ok (.dup, 1) := by decide +kernel
theorem dX7_reads_47 : decode cX7_reads 47 = .ok (.getfield 87, 3) := by decide +kernel
theorem dX7_reads_50 : decode cX7_reads 50 = .ok (.iconst 1, 1) := by decide +kernel
theorem dX7_reads_51 : decode cX7_reads 51 = .ok (.iadd, 1) := by decide +kernel
theorem dX7_reads_52 : decode cX7_reads 52 = .ok (.putfield 87, 3) := by decide +kernel
theorem dX7_reads_55 : decode cX7_reads 55 = .ok (.aload_n 0, 1) := by decide +kernel
theorem dX7_reads_56 : decode cX7_reads 56 = .ok (.getfield 23, 3) := by decide +kernel
theorem dX7_reads_59 : decode cX7_reads 59 = .ok (.iload_n 3, 1) := by decide +kernel
theorem dX7_reads_60 : decode cX7_reads 60 = .ok (.dup2, 1) := by decide +kernel
theorem dX7_reads_61 : decode cX7_reads 61 = .ok (.iaload, 1) := by decide +kernel
theorem dX7_reads_62 : decode cX7_reads 62 = .ok (.iconst 1, 1) := by decide +kernel
theorem dX7_reads_63 : decode cX7_reads 63 = .ok (.iadd, 1) := by decide +kernel
theorem dX7_reads_64 : decode cX7_reads 64 = .ok (.iastore, 1) := by decide +kernel
theorem dX7_reads_65 : decode cX7_reads 65 = .ok (.aload_n 0, 1) := by decide +kernel
theorem dX7_reads_66 : decode cX7_reads 66 = .ok (.getfield 26, 3) := by decide +kernel
theorem dX7_reads_69 : decode cX7_reads 69 = .ok (.iload_n 3, 1) := by decide +kernel
theorem dX7_reads_70 : decode cX7_reads 70 = .ok (.aload_n 0, 1) := by decide +kernel
theorem dX7_reads_71 : decode cX7_reads 71 = .ok (.aload_n 0, 1) := by decide +kernel
theorem dX7_reads_72 : decode cX7_reads 72 = .ok (.getfield 23, 3) := by decide +kernel
theorem dX7_reads_75 : decode cX7_reads 75 = .ok (.iload_n 3, 1) := by decide +kernel
theorem dX7_reads_76 : decode cX7_reads 76 = .ok (.iaload, 1) := by decide +kernel
theorem dX7_reads_77 : decode cX7_reads 77 = .ok (.iload_n 2, 1) := by decide +kernel
theorem dX7_reads_78 : decode cX7_reads 78 = .ok (.iconst 1, 1) := by decide +kernel
theorem dX7_reads_79 : decode cX7_reads 79 = .ok (.iadd, 1) := by decide +kernel
theorem dX7_reads_80 : decode cX7_reads 80 = .ok (.invokevirtual 90, 3) := by decide +kernel
theorem dX7_reads_83 : decode cX7_reads 83 = .ok (.iastore, 1) := by decide +kernel
end
section
theorem dX7_reads_84 : decode cX7_reads 84 = .ok (.iinc 2 1, 3) := by decide +kernel
theorem dX7_reads_87 : decode cX7_reads 87 = .ok (.goto (-80), 3) := by decide +kernel
theorem dX7_reads_90 : decode cX7_reads 90 = .ok (.return_, 1) := by decide +kernel
theorem dX7_drops_0 : decode cX7_drops 0 = .ok (.aload_n 0, 1) := by decide +kernel
theorem dX7_drops_1 : decode cX7_drops 1 = .ok (.dup, 1) := by decide +kernel
theorem dX7_drops_2 : decode cX7_drops 2 = .ok (.getfield 87, 3) := by decide +kernel
theorem dX7_drops_5 : decode cX7_drops 5 = .ok (.iconst 1, 1) := by decide +kernel
theorem dX7_drops_6 : decode cX7_drops 6 = .ok (.isub, 1) := by decide +kernel
theorem dX7_drops_7 : decode cX7_drops 7 = .ok (.putfield 87, 3) := by decide +kernel
theorem dX7_drops_10 : decode cX7_drops 10 = .ok (.aload_n 0, 1) := by decide +kernel
theorem dX7_drops_11 : decode cX7_drops 11 = .ok (.getfield 23, 3) := by decide +kernel
theorem dX7_drops_14 : decode cX7_drops 14 = .ok (.iload_n 1, 1) := by decide +kernel
theorem dX7_drops_15 : decode cX7_drops 15 = .ok (.aload_n 0, 1) := by decide +kernel
theorem dX7_drops_16 : decode cX7_drops 16 = .ok (.getfield 23, 3) := by decide +kernel
theorem dX7_drops_19 : decode cX7_drops 19 = .ok (.aload_n 0, 1) := by decide +kernel
theorem dX7_drops_20 : decode cX7_drops 20 = .ok (.getfield 87, 3) := by decide +kernel
theorem dX7_drops_23 : decode cX7_drops 23 = .ok (.iaload, 1) := by decide +kernel
theorem dX7_drops_24 : decode cX7_drops 24 = .ok (.iastore, 1) := by decide +kernel
theorem dX7_drops_25 : decode cX7_drops 25 = .ok (.aload_n 0, 1) := by decide +kernel
theorem dX7_drops_26 : decode cX7_drops 26 = .ok (.getfield 26, 3) := by decide +kernel
theorem dX7_drops_29 : decode cX7_drops 29 = .ok (.iload_n 1, 1) := by decide +kernel
theorem dX7_drops_30 : decode cX7_drops 30 = .ok (.aload_n 0, 1) := by decide +kernel
theorem dX7_drops_31 : decode cX7_drops 31 = .ok (.getfield 26, 3) := by decide +kernel
theorem dX7_drops_34 : decode cX7_drops 34 = .ok (.aload_n 0, 1) := by decide +kernel
theorem dX7_drops_35 : decode cX7_drops 35 = .ok (.getfield 87, 3) := by decide +kernel
theorem dX7_drops_38 : decode cX7_drops 38 = .ok (.iaload, 1) := by decide +kernel
theorem dX7_drops_39 : decode cX7_drops 39 = .ok (.iastore, 1) := by decide +kernel
theorem dX7_drops_40 : decode cX7_drops 40 = .ok (.return_, 1) := by decide +kernel
set_option maxRecDepth 20000 in
theorem ggX7_makes_X7_tight : GoodIn wsX7_makes wsX7_tight := goodIn_r _ [9, 4, 3, 2, 10, 11, 12, 8, 13, 18, 19, 20, 21, 22, 23, 24, 25, 26, 27, 28, 29, 30, 31, 32, 33, 34, 35, 36, 37, 38, 39] (by decide +kernel) (by decide +kernel)
set_option maxRecDepth 20000 in
theorem gX7_makes_X7_tight : GoodIn wsX7_makes (wsV RX7 94 RX7 yX7_tight wsX7_tight) := goodIn_app (goodIn_of _ (by decide +kernel)) ggX7_makes_X7_tight
set_option maxRecDepth 20000 in
theorem ggX7_makes_X7_drops : GoodIn wsX7_makes wsX7_drops := goodIn_r _ [17, 4, 2, 3, 18, 19, 20, 21, 22, 23, 24, 25, 26, 27, 28, 29, 30, 31, 32, 33, 34, 35, 36, 37, 38, 39] (by decide +kernel) (by decide +kernel)
set_option maxRecDepth 20000 in
theorem gX7_makes_X7_drops : GoodIn wsX7_makes (wsV RX7 97 RX7 yX7_drops wsX7_drops) := goodIn_app (goodIn_of _ (by decide +kernel)) ggX7_makes_X7_drops
set_option maxRecDepth 20000 in
theorem ggX7_makes_X7_room : GoodIn wsX7_makes wsX7_room := goodIn_r _ [13, 4, 2, 18, 19, 20, 21, 22, 23, 24, 25, 26, 27, 28, 29, 30, 31, 32, 33, 34, 35, 36, 37, 38, 39] (by decide +kernel) (by decide +kernel)
set_option maxRecDepth 20000 in
theorem gX7_makes_X7_room : GoodIn wsX7_makes (wsV RX7 90 RX7 yX7_room wsX7_room) := goodIn_app (goodIn_of _ (by decide +kernel)) ggX7_makes_X7_room
theorem dX7_makes_0 : decode cX7_makes 0 = .ok (.sipush 239, 3) := by decide +kernel
theorem dX7_makes_3 : decode cX7_makes 3 = .ok (.istore_n 1, 1) := by decide +kernel
theorem dX7_makes_4 : decode cX7_makes 4 = .ok (.iload_n 1, 1) := by decide +kernel
theorem dX7_makes_5 : decode cX7_makes 5 = .ok (.ifCond .lt 83, 3) := by decide +kernel
theorem dX7_makes_8 : decode cX7_makes 8 = .ok (.aload_n 0, 1) := by decide +kernel
theorem dX7_makes_9 : decode cX7_makes 9 = .ok (.iload_n 1, 1) := by decide +kernel
theorem dX7_makes_10 : decode cX7_makes 10 = .ok (.iconst 1, 1) := by decide +kernel
theorem dX7_makes_11 : decode cX7_makes 11 = .ok (.iadd, 1) := by decide +kernel
theorem dX7_makes_12 : decode cX7_makes 12 = .ok (.iconst 0, 1) := by decide +kernel
theorem dX7_makes_13 : decode cX7_makes 13 = .ok (.invokevirtual 94, 3) := by decide +kernel
theorem dX7_makes_16 : decode cX7_makes 16 = .ok (.istore_n 2, 1) := by decide +kernel
theorem dX7_makes_17 : decode cX7_makes 17 = .ok (.aload_n 0, 1) := by decide +kernel
theorem dX7_makes_18 : decode cX7_makes 18 = .ok (.getfield 13, 3) := by decide +kernel
theorem dX7_makes_21 : decode cX7_makes 21 = .ok (.iload_n 1, 1) := by decide +kernel
theorem dX7_makes_22 : decode cX7_makes 22 = .ok (.iload_n 2, 1) := by decide +kernel
theorem dX7_makes_23 : decode cX7_makes 23 = .ok (.iconst (-1), 1) := by decide +kernel
theorem dX7_makes_24 : decode cX7_makes 24 = .ok (.if_icmp .eq 7, 3) := by decide +kernel
theorem dX7_makes_27 : decode cX7_makes 27 = .ok (.iconst 1, 1) := by decide +kernel
theorem dX7_makes_28 : decode cX7_makes 28 = .ok (.goto 4, 3) := by decide +kernel
theorem dX7_makes_31 : decode cX7_makes 31 = .ok (.iconst 0, 1) := by decide +kernel
theorem dX7_makes_32 : decode cX7_makes 32 = .ok (.bastore, 1) := by decide +kernel
theorem dX7_makes_33 : decode cX7_makes 33 = .ok (.iload_n 2, 1) := by decide +kernel
theorem dX7_makes_34 : decode cX7_makes 34 = .ok (.iconst (-1), 1) := by decide +kernel
theorem dX7_makes_35 : decode cX7_makes 35 = .ok (.if_icmp .eq 47, 3) := by decide +kernel
theorem dX7_makes_38 : decode cX7_makes 38 = .ok (.aload_n 0, 1) := by decide +kernel
theorem dX7_makes_39 : decode cX7_makes 39 = .ok (.getfield 23, 3) := by decide +kernel
theorem dX7_makes_42 : decode cX7_makes 42 = .ok (.iload_n 2, 1) := by decide +kernel
theorem dX7_makes_43 : decode cX7_makes 43 = .ok (.dup2, 1) := by decide +kernel
theorem dX7_makes_44 : decode cX7_makes 44 = .ok (.iaload, 1) := by decide +kernel
theorem dX7_makes_45 : decode cX7_makes 45 = .ok (.iconst 1, 1) := by decide +kernel
theorem dX7_makes_46 : decode cX7_makes 46 = .ok (.isub, 1) := by decide +kernel
theorem dX7_makes_47 : decode cX7_makes 47 = .ok (.iastore, 1) := by decide +kernel
theorem dX7_makes_48 : decode cX7_makes 48 = .ok (.aload_n 0, 1) := by decide +kernel
theorem dX7_makes_49 : decode cX7_makes 49 = .ok (.getfield 23, 3) := by decide +kernel
theorem dX7_makes_52 : decode cX7_makes 52 = .ok (.iload_n 2, 1) := by decide +kernel
theorem dX7_makes_53 : decode cX7_makes 53 = .ok (.iaload, 1) := by decide +kernel
theorem dX7_makes_54 : decode cX7_makes 54 = .ok (.ifCond .ne 11, 3) := by decide +kernel
theorem dX7_makes_57 : decode cX7_makes 57 = .ok (.aload_n 0, 1) := by decide +kernel
theorem dX7_makes_58 : decode cX7_makes 58 = .ok (.iload_n 2, 1) := by decide +kernel
theorem dX7_makes_59 : decode cX7_makes 59 = .ok (.invokevirtual 97, 3) := by decide +kernel
theorem dX7_makes_62 : decode cX7_makes 62 = .ok (.goto 20, 3) := by decide +kernel
theorem dX7_makes_65 : decode cX7_makes 65 = .ok (.aload_n 0, 1) := by decide +kernel
theorem dX7_makes_66 : decode cX7_makes 66 = .ok (.getfield 26, 3) := by decide +kernel
theorem dX7_makes_69 : decode cX7_makes 69 = .ok (.iload_n 2, 1) := by decide +kernel
theorem dX7_makes_70 : decode cX7_makes 70 = .ok (.aload_n 0, 1) := by decide +kernel
theorem dX7_makes_71 : decode cX7_makes 71 = .ok (.aload_n 0, 1) := by decide +kernel
theorem dX7_makes_72 : decode cX7_makes 72 = .ok (.getfield 23, 3) := by decide +kernel
theorem dX7_makes_75 : decode cX7_makes 75 = .ok (.iload_n 2, 1) := by decide +kernel
theorem dX7_makes_76 : decode cX7_makes 76 = .ok (.iaload, 1) := by decide +kernel
theorem dX7_makes_77 : decode cX7_makes 77 = .ok (.iload_n 1, 1) := by decide +kernel
theorem dX7_makes_78 : decode cX7_makes 78 = .ok (.invokevirtual 90, 3) := by decide +kernel
theorem dX7_makes_81 : decode cX7_makes 81 = .ok (.iastore, 1) := by decide +kernel
theorem dX7_makes_82 : decode cX7_makes 82 = .ok (.iinc 1 (-1), 3) := by decide +kernel
theorem dX7_makes_85 : decode cX7_makes 85 = .ok (.goto (-81), 3) := by decide +kernel
theorem dX7_makes_88 : decode cX7_makes 88 = .ok (.aload_n 0, 1) := by decide +kernel
theorem dX7_makes_89 : decode cX7_makes 89 = .ok (.getfield 87, 3) := by decide +kernel
theorem dX7_makes_92 : decode cX7_makes 92 = .ok (.ifCond .ne 7, 3) := by decide +kernel
theorem dX7_makes_95 : decode cX7_makes 95 = .ok (.iconst 1, 1) := by decide +kernel
theorem dX7_makes_96 : decode cX7_makes 96 = .ok (.goto 4, 3) := by decide +kernel
theorem dX7_makes_99 : decode cX7_makes 99 = .ok (.iconst 0, 1) := by decide +kernel
theorem dX7_makes_100 : decode cX7_makes 100 = .ok (.ireturn, 1) := by decide +kernel
set_option maxRecDepth 20000 in
theorem ggX7_strings_X7_in : GoodIn wsX7_strings wsX7_in := goodIn_r _ [11] (by decide +kernel) (by decide +kernel)
set_option maxRecDepth 20000 in
theorem gX7_strings_X7_in : GoodIn wsX7_strings (va_wsS RX7 66 yX7_in wsX7_in) := goodIn_app (goodIn_of _ (by decide +kernel)) ggX7_strings_X7_in
set_option maxRecDepth 20000 in
theorem ggX7_strings_X7_reads : GoodIn wsX7_strings wsX7_reads := goodIn_r _ [15, 1, 16, 4, 6, 17, 18, 19, 10, 20, 21, 22, 23, 24, 25, 26, 27, 28, 29, 30, 31, 32, 33, 34, 35, 36, 37, 38, 39, 40, 41, 42, 43, 44, 45, 46] (by decide +kernel) (by decide +kernel)
set_option maxRecDepth 20000 in
theorem gX7_strings_X7_reads : GoodIn wsX7_strings (wsV RX7 101 RX7 yX7_reads wsX7_reads) := goodIn_app (goodIn_of _ (by decide +kernel)) ggX7_strings_X7_reads
set_option maxRecDepth 20000 in
theorem ggX7_strings_X7_room : GoodIn wsX7_strings wsX7_room := goodIn_r _ [24, 1, 4, 25, 26, 27, 28, 29, 30, 31, 32, 33, 34, 35, 36, 37, 38, 39, 40, 41, 42, 43, 44, 45, 46] (by decide +kernel) (by decide +kernel)
set_option maxRecDepth 20000 in
theorem gX7_strings_X7_room : GoodIn wsX7_strings (wsV RX7 90 RX7 yX7_room wsX7_room) := goodIn_app (goodIn_of _ (by decide +kernel)) ggX7_strings_X7_room
theorem dX7_strings_0 : decode cX7_strings 0 = .ok (.iload_n 1, 1) := by decide +kernel
theorem dX7_strings_1 : decode cX7_strings 1 = .ok (.iconst 0, 1) := by decide +kernel
theorem dX7_strings_2 : decode cX7_strings 2 = .ok (.sipush 240, 3) := by decide +kernel
theorem dX7_strings_5 : decode cX7_strings 5 = .ok (.invokestatic 66, 3) := by decide +kernel
theorem dX7_strings_8 : decode cX7_strings 8 = .ok (.ifCond .ne 6, 3) := by decide +kernel
theorem dX7_strings_11 : decode cX7_strings 11 = .ok (.bipush (-2), 2) := by decide +kernel
theorem dX7_strings_13 : decode cX7_strings 13 = .ok (.ireturn, 1) := by decide +kernel
theorem dX7_strings_14 : decode cX7_strings 14 = .ok (.aload_n 0, 1) := by decide +kernel
theorem dX7_strings_15 : decode cX7_strings 15 = .ok (.iload_n 1, 1) := by decide +kernel
theorem dX7_strings_16 : decode cX7_strings 16 = .ok (.invokevirtual 101, 3) := by decide +kernel
theorem dX7_strings_19 : decode cX7_strings 19 = .ok (.aload_n 0, 1) := by decide +kernel
theorem dX7_strings_20 : decode cX7_strings 20 = .ok (.aload_n 0, 1) := by decide +kernel
theorem dX7_strings_21 : decode cX7_strings 21 = .ok (.getfield 87, 3) := by decide +kernel
theorem dX7_strings_24 : decode cX7_strings 24 = .ok (.putfield 104, 3) := by decide +kernel
theorem dX7_strings_27 : decode cX7_strings 27 = .ok (.iconst 0, 1) := by decide +kernel
theorem dX7_strings_28 : decode cX7_strings 28 = .ok (.istore_n 2, 1) := by decide +kernel
theorem dX7_strings_29 : decode cX7_strings 29 = .ok (.iload_n 2, 1) := by decide +kernel
theorem dX7_strings_30 : decode cX7_strings 30 = .ok (.aload_n 0, 1) := by decide +kernel
theorem dX7_strings_31 : decode cX7_strings 31 = .ok (.getfield 87, 3) := by decide +kernel
theorem dX7_strings_34 : decode cX7_strings 34 = .ok (.if_icmp .ge 124, 3) := by decide +kernel
theorem dX7_strings_37 : decode cX7_strings 37 = .ok (.iload_n 2, 1) := by decide +kernel
theorem dX7_strings_38 : decode cX7_strings 38 = .ok (.istore_n 3, 1) := by decide +kernel
theorem dX7_strings_39 : decode cX7_strings 39 = .ok (.iload_n 3, 1) := by decide +kernel
theorem dX7_strings_40 : decode cX7_strings 40 = .ok (.ifCond .le 88, 3) := by decide +kernel
theorem dX7_strings_43 : decode cX7_strings 43 = .ok (.aload_n 0, 1) := by decide +kernel
theorem dX7_strings_44 : decode cX7_strings 44 = .ok (.getfield 29, 3) := by decide +kernel
theorem dX7_strings_47 : decode cX7_strings 47 = .ok (.iload_n 3, 1) := by decide +kernel
theorem dX7_strings_48 : decode cX7_strings 48 = .ok (.iconst 1, 1) := by decide +kernel
theorem dX7_strings_49 : decode cX7_strings 49 = .ok (.isub, 1) := by decide +kernel
theorem dX7_strings_50 : decode cX7_strings 50 = .ok (.iaload, 1) := by decide +kernel
theorem dX7_strings_51 : decode cX7_strings 51 = .ok (.aload_n 0, 1) := by decide +kernel
theorem dX7_strings_52 : decode cX7_strings 52 = .ok (.getfield 23, 3) := by decide +kernel
theorem dX7_strings_55 : decode cX7_strings 55 = .ok (.iload_n 2, 1) := by decide +kernel
theorem dX7_strings_56 : decode cX7_strings 56 = .ok (.iaload, 1) := by decide +kernel
theorem dX7_strings_57 : decode cX7_strings 57 = .ok (.if_icmp .lt 37, 3) := by decide +kernel
theorem dX7_strings_60 : decode cX7_strings 60 = .ok (.aload_n 0, 1) := by decide +kernel
theorem dX7_strings_61 : decode cX7_strings 61 = .ok (.getfield 29, 3) := by decide +kernel
theorem dX7_strings_64 : decode cX7_strings 64 = .ok (.iload_n 3, 1) := by decide +kernel
theorem dX7_strings_65 : decode cX7_strings 65 = .ok (.iconst 1, 1) := by decide +kernel
theorem dX7_strings_66 : decode cX7_strings 66 = .ok (.isub, 1) := by decide +kernel
theorem dX7_strings_67 : decode cX7_strings 67 = .ok (.iaload, 1) := by decide +kernel
theorem dX7_strings_68 : decode cX7_strings 68 = .ok (.aload_n 0, 1) := by decide +kernel
theorem dX7_strings_69 : decode cX7_strings 69 = .ok (.getfield 23, 3) := by decide +kernel
theorem dX7_strings_72 : decode cX7_strings 72 = .ok (.iload_n 2, 1) := by decide +kernel
theorem dX7_strings_73 : decode cX7_strings 73 = .ok (.iaload, 1) := by decide +kernel
theorem dX7_strings_74 : decode cX7_strings 74 = .ok (.if_icmp .ne 54, 3) := by decide +kernel
theorem dX7_strings_77 : decode cX7_strings 77 = .ok (.aload_n 0, 1) := by decide +kernel
theorem dX7_strings_78 : decode cX7_strings 78 = .ok (.getfield 32, 3) := by decide +kernel
theorem dX7_strings_81 : decode cX7_strings 81 = .ok (.iload_n 3, 1) := by decide +kernel
theorem dX7_strings_82 : decode cX7_strings 82 = .ok (.iconst 1, 1) := by decide +kernel
theorem dX7_strings_83 : decode cX7_strings 83 = .ok (.isub, 1) := by decide +kernel
theorem dX7_strings_84 : decode cX7_strings 84 = .ok (.iaload, 1) := by decide +kernel
theorem dX7_strings_85 : decode cX7_strings 85 = .ok (.aload_n 0, 1) := by decide +kernel
theorem dX7_strings_86 : decode cX7_strings 86 = .ok (.getfield 26, 3) := by decide +kernel
theorem dX7_strings_89 : decode cX7_strings 89 = .ok (.iload_n 2, 1) := by decide +kernel
theorem dX7_strings_90 : decode cX7_strings 90 = .ok (.iaload, 1) := by decide +kernel
theorem dX7_strings_91 : decode cX7_strings 91 = .ok (.if_icmp .ge 37, 3) := by decide +kernel
theorem dX7_strings_94 : decode cX7_strings 94 = .ok (.aload_n 0, 1) := by decide +kernel
theorem dX7_strings_95 : decode cX7_strings 95 = .ok (.getfield 29, 3) := by decide +kernel
theorem dX7_strings_98 : decode cX7_strings 98 = .ok (.iload_n 3, 1) := by decide +kernel
theorem dX7_strings_99 : decode cX7_strings 99 = .ok (.aload_n 0, 1) := by decide +kernel
theorem dX7_strings_100 : decode cX7_strings 100 = .ok (.getfield 29, 3) := by decide +kernel
theorem dX7_strings_103 : decode cX7_strings 103 = .ok (.iload_n 3, 1) := by decide +kernel
theorem dX7_strings_104 : decode cX7_strings 104 = .ok (.iconst 1, 1) := by decide +kernel
theorem dX7_strings_105 : decode cX7_strings 105 = .ok (.isub, 1) := by decide +kernel
theorem dX7_strings_106 : decode cX7_strings 106 = .ok (.iaload, 1) := by decide +kernel
theorem dX7_strings_107 : decode cX7_strings 107 = .ok (.iastore, 1) := by decide +kernel
theorem dX7_strings_108 : decode cX7_strings 108 = .ok (.aload_n 0, 1) := by decide +kernel
theorem dX7_strings_109 : decode cX7_strings 109 = .ok (.getfield 32, 3) := by decide +kernel
theorem dX7_strings_112 : decode cX7_strings 112 = .ok (.iload_n 3, 1) := by decide +kernel
theorem dX7_strings_113 : decode cX7_strings 113 = .ok (.aload_n 0, 1) := by decide +kernel
theorem dX7_strings_114 : decode cX7_strings 114 = .ok (.getfield 32, 3) := by decide +kernel
theorem dX7_strings_117 : decode cX7_strings 117 = .ok (.iload_n 3, 1) := by decide +kernel
theorem dX7_strings_118 : decode cX7_strings 118 = .ok (.iconst 1, 1) := by decide +kernel
theorem dX7_strings_119 : decode cX7_strings 119 = .ok (.isub, 1) := by decide +kernel
theorem dX7_strings_120 : decode cX7_strings 120 = .ok (.iaload, 1) := by decide +kernel
theorem dX7_strings_121 : decode cX7_strings 121 = .ok (.iastore, 1) := by decide +kernel
theorem dX7_strings_122 : decode cX7_strings 122 = .ok (.iinc 3 (-1), 3) := by decide +kernel
theorem dX7_strings_125 : decode cX7_strings 125 = .ok (.goto (-86), 3) := by decide +kernel
theorem dX7_strings_128 : decode cX7_strings 128 = .ok (.aload_n 0, 1) := by decide +kernel
theorem dX7_strings_129 : decode cX7_strings 129 = .ok (.getfield 29, 3) := by decide +kernel
theorem dX7_strings_132 : decode cX7_strings 132 = .ok (.iload_n 3, 1) := by decide +kernel
theorem dX7_strings_133 : decode cX7_strings 133 = .ok (.aload_n 0, 1) := by decide +kernel
theorem dX7_strings_134 : decode cX7_strings 134 = .ok (.getfield 23, 3) := by decide +kernel
theorem dX7_strings_137 : decode cX7_strings 137 = .ok (.iload_n 2, 1) := by decide +kernel
theorem dX7_strings_138 : decode cX7_strings 138 = .ok (.iaload, 1) := by decide +kernel
theorem dX7_strings_139 : decode cX7_strings 139 = .ok (.iastore, 1) := by decide +kernel
theorem dX7_strings_140 : decode cX7_strings 140 = .ok (.aload_n 0, 1) := by decide +kernel
theorem dX7_strings_141 : decode cX7_strings 141 = .ok (.getfield 32, 3) := by decide +kernel
theorem dX7_strings_144 : decode cX7_strings 144 = .ok (.iload_n 3, 1) := by decide +kernel
theorem dX7_strings_145 : decode cX7_strings 145 = .ok (.aload_n 0, 1) := by decide +kernel
theorem dX7_strings_146 : decode cX7_strings 146 = .ok (.getfield 26, 3) := by decide +kernel
theorem dX7_strings_149 : decode cX7_strings 149 = .ok (.iload_n 2, 1) := by decide +kernel
theorem dX7_strings_150 : decode cX7_strings 150 = .ok (.iaload, 1) := by decide +kernel
theorem dX7_strings_151 : decode cX7_strings 151 = .ok (.iastore, 1) := by decide +kernel
theorem dX7_strings_152 : decode cX7_strings 152 = .ok (.iinc 2 1, 3) := by decide +kernel
theorem dX7_strings_155 : decode cX7_strings 155 = .ok (.goto (-126), 3) := by decide +kernel
theorem dX7_strings_158 : decode cX7_strings 158 = .ok (.iconst 0, 1) := by decide +kernel
theorem dX7_strings_159 : decode cX7_strings 159 = .ok (.istore_n 2, 1) := by decide +kernel
theorem dX7_strings_160 : decode cX7_strings 160 = .ok (.iload_n 2, 1) := by decide +kernel
theorem dX7_strings_161 : decode cX7_strings 161 = .ok (.aload_n 0, 1) := by decide +kernel
theorem dX7_strings_162 : decode cX7_strings 162 = .ok (.getfield 87, 3) := by decide +kernel
theorem dX7_strings_165 : decode cX7_strings 165 = .ok (.if_icmp .ge 26, 3) := by decide +kernel
theorem dX7_strings_168 : decode cX7_strings 168 = .ok (.aload_n 0, 1) := by decide +kernel
theorem dX7_strings_169 : decode cX7_strings 169 = .ok (.getfield 35, 3) := by decide +kernel
theorem dX7_strings_172 : decode cX7_strings 172 = .ok (.iload_n 2, 1) := by decide +kernel
theorem dX7_strings_173 : decode cX7_strings 173 = .ok (.aload_n 0, 1) := by decide +kernel
theorem dX7_strings_174 : decode cX7_strings 174 = .ok (.aload_n 0, 1) := by decide +kernel
theorem dX7_strings_175 : decode cX7_strings 175 = .ok (.getfield 29, 3) := by decide +kernel
theorem dX7_strings_178 : decode cX7_strings 178 = .ok (.iload_n 2, 1) := by decide +kernel
theorem dX7_strings_179 : decode cX7_strings 179 = .ok (.iaload, 1) := by decide +kernel
theorem dX7_strings_180 : decode cX7_strings 180 = .ok (.iload_n 1, 1) := by decide +kernel
theorem dX7_strings_181 : decode cX7_strings 181 = .ok (.invokevirtual 90, 3) := by decide +kernel
theorem dX7_strings_184 : decode cX7_strings 184 = .ok (.iastore, 1) := by decide +kernel
theorem dX7_strings_185 : decode cX7_strings 185 = .ok (.iinc 2 1, 3) := by decide +kernel
theorem dX7_strings_188 : decode cX7_strings 188 = .ok (.goto (-28), 3) := by decide +kernel
theorem dX7_strings_191 : decode cX7_strings 191 = .ok (.aload_n 0, 1) := by decide +kernel
theorem dX7_strings_192 : decode cX7_strings 192 = .ok (.getfield 87, 3) := by decide +kernel
theorem dX7_strings_195 : decode cX7_strings 195 = .ok (.ireturn, 1) := by decide +kernel
set_option maxRecDepth 20000 in
theorem ggX7_string_X7_in : GoodIn wsX7_string wsX7_in := goodIn_r _ [8] (by decide +kernel) (by decide +kernel)
set_option maxRecDepth 20000 in
theorem gX7_string_X7_in : GoodIn wsX7_string (va_wsS RX7 66 yX7_in wsX7_in) := goodIn_app (goodIn_of _ (by decide +kernel)) ggX7_string_X7_in
theorem dX7_string_0 : decode cX7_string 0 = .ok (.iload_n 1, 1) := by decide +kernel
theorem dX7_string_1 : decode cX7_string 1 = .ok (.iconst 0, 1) := by decide +kernel
theorem dX7_string_2 : decode cX7_string 2 = .ok (.aload_n 0, 1) := by decide +kernel
theorem dX7_string_3 : decode cX7_string 3 = .ok (.getfield 104, 3) := by decide +kernel
theorem dX7_string_6 : decode cX7_string 6 = .ok (.iconst 1, 1) := by decide +kernel
theorem dX7_string_7 : decode cX7_string 7 = .ok (.isub, 1) := by decide +kernel
theorem dX7_string_8 : decode cX7_string 8 = .ok (.invokestatic 66, 3) := by decide +kernel
theorem dX7_string_11 : decode cX7_string 11 = .ok (.ifCond .eq 12, 3) := by decide +kernel
theorem dX7_string_14 : decode cX7_string 14 = .ok (.iload_n 2, 1) := by decide +kernel
theorem dX7_string_15 : decode cX7_string 15 = .ok (.iconst 0, 1) := by decide +kernel
theorem dX7_string_16 : decode cX7_string 16 = .ok (.iconst 2, 1) := by decide +kernel
theorem dX7_string_17 : decode cX7_string 17 = .ok (.invokestatic 66, 3) := by decide +kernel
theorem dX7_string_20 : decode cX7_string 20 = .ok (.ifCond .ne 7, 3) := by decide +kernel
theorem dX7_string_23 : decode cX7_string 23 = .ok (.sipush (-1000), 3) := by decide +kernel
theorem dX7_string_26 : decode cX7_string 26 = .ok (.ireturn, 1) := by decide +kernel
theorem dX7_string_27 : decode cX7_string 27 = .ok (.iload_n 2, 1) := by decide +kernel
theorem dX7_string_28 : decode cX7_string 28 = .ok (.ifCond .ne 12, 3) := by decide +kernel
theorem dX7_string_31 : decode cX7_string 31 = .ok (.aload_n 0, 1) := by decide +kernel
theorem dX7_string_32 : decode cX7_string 32 = .ok (.getfield 29, 3) := by decide +kernel
theorem dX7_string_35 : decode cX7_string 35 = .ok (.iload_n 1, 1) := by decide +kernel
theorem dX7_string_36 : decode cX7_string 36 = .ok (.iaload, 1) := by decide +kernel
theorem dX7_string_37 : decode cX7_string 37 = .ok (.goto 23, 3) := by decide +kernel
theorem dX7_string_40 : decode cX7_string 40 = .ok (.iload_n 2, 1) := by decide +kernel
theorem dX7_string_41 : decode cX7_string 41 = .ok (.iconst 1, 1) := by decide +kernel
theorem dX7_string_42 : decode cX7_string 42 = .ok (.if_icmp .ne 12, 3) := by decide +kernel
theorem dX7_string_45 : decode cX7_string 45 = .ok (.aload_n 0, 1) := by decide +kernel
theorem dX7_string_46 : decode cX7_string 46 = .ok (.getfield 32, 3) := by decide +kernel
theorem dX7_string_49 : decode cX7_string 49 = .ok (.iload_n 1, 1) := by decide +kernel
theorem dX7_string_50 : decode cX7_string 50 = .ok (.iaload, 1) := by decide +kernel
theorem dX7_string_51 : decode cX7_string 51 = .ok (.goto 9, 3) := by decide +kernel
theorem dX7_string_54 : decode cX7_string 54 = .ok (.aload_n 0, 1) := by decide +kernel
theorem dX7_string_55 : decode cX7_string 55 = .ok (.getfield 35, 3) := by decide +kernel
theorem dX7_string_58 : decode cX7_string 58 = .ok (.iload_n 1, 1) := by decide +kernel
theorem dX7_string_59 : decode cX7_string 59 = .ok (.iaload, 1) := by decide +kernel
theorem dX7_string_60 : decode cX7_string 60 = .ok (.ireturn, 1) := by decide +kernel
set_option maxRecDepth 20000 in
theorem ggX7_leap_X7_in : GoodIn wsX7_leap wsX7_in := goodIn_r _ [7] (by decide +kernel) (by decide +kernel)
set_option maxRecDepth 20000 in
theorem gX7_leap_X7_in : GoodIn wsX7_leap (va_wsS RX7 66 yX7_in wsX7_in) := goodIn_app (goodIn_of _ (by decide +kernel)) ggX7_leap_X7_in
set_option maxRecDepth 20000 in
theorem ggX7_leap_X7_reads : GoodIn wsX7_leap wsX7_reads := goodIn_r _ [11, 1, 12, 3, 2, 13, 14, 15, 6, 16, 17, 18, 19, 20, 35, 36, 37, 38, 39, 40, 41, 42, 43, 44, 45, 46, 47, 48, 49, 50, 51, 52, 53, 54, 55, 56] (by decide +kernel) (by decide +kernel)
set_option maxRecDepth 20000 in
theorem gX7_leap_X7_reads : GoodIn wsX7_leap (wsV RX7 101 RX7 yX7_reads wsX7_reads) := goodIn_app (goodIn_of _ (by decide +kernel)) ggX7_leap_X7_reads
set_option maxRecDepth 20000 in
theorem ggX7_leap_X7_room : GoodIn wsX7_leap wsX7_room := goodIn_r _ [20, 1, 3, 35, 36, 37, 38, 39, 40, 41, 42, 43, 44, 45, 46, 47, 48, 49, 50, 51, 52, 53, 54, 55, 56] (by decide +kernel) (by decide +kernel)
set_option maxRecDepth 20000 in
theorem gX7_leap_X7_room : GoodIn wsX7_leap (wsV RX7 90 RX7 yX7_room wsX7_room) := goodIn_app (goodIn_of _ (by decide +kernel)) ggX7_leap_X7_room
set_option maxRecDepth 20000 in
theorem ggX7_leap_X7_makes : GoodIn wsX7_leap wsX7_makes := goodIn_r _ [24, 25, 3, 2, 1, 13, 14, 15, 6, 16, 17, 18, 19, 20, 26, 27, 28, 29, 35, 36, 37, 38, 39, 40, 41, 42, 43, 44, 45, 46, 47, 48, 49, 50, 51, 52, 53, 54, 55, 56] (by decide +kernel) (by decide +kernel)
set_option maxRecDepth 20000 in
theorem gX7_leap_X7_makes : GoodIn wsX7_leap (wsV RX7 107 RX7 yX7_makes wsX7_makes) := goodIn_app (goodIn_of _ (by decide +kernel)) ggX7_leap_X7_makes
set_option maxRecDepth 20000 in
theorem ggX7_leap_X7_takes : GoodIn wsX7_leap wsX7_takes := goodIn_r _ [33, 12, 25, 34, 35, 36, 37, 38, 39, 40, 41, 42, 43, 44, 45, 46, 47, 48, 49, 50, 51, 52, 53, 54, 55, 56] (by decide +kernel) (by decide +kernel)
set_option maxRecDepth 20000 in
theorem gX7_leap_X7_takes : GoodIn wsX7_leap (wsV RX7 77 RX7 yX7_takes wsX7_takes) := goodIn_app (goodIn_of _ (by decide +kernel)) ggX7_leap_X7_takes
theorem dX7_leap_0 : decode cX7_leap 0 = .ok (.iload_n 1, 1) := by decide +kernel
theorem dX7_leap_1 : decode cX7_leap 1 = .ok (.iconst 1, 1) := by decide +kernel
theorem dX7_leap_2 : decode cX7_leap 2 = .ok (.bipush 50, 2) := by decide +kernel
theorem dX7_leap_4 : decode cX7_leap 4 = .ok (.invokestatic 66, 3) := by decide +kernel
theorem dX7_leap_7 : decode cX7_leap 7 = .ok (.ifCond .eq 16, 3) := by decide +kernel
theorem dX7_leap_10 : decode cX7_leap 10 = .ok (.iload_n 2, 1) := by decide +kernel
theorem dX7_leap_11 : decode cX7_leap 11 = .ok (.sipush (-1000), 3) := by decide +kernel
theorem dX7_leap_14 : decode cX7_leap 14 = .ok (.sipush 1000, 3) := by decide +kernel
theorem dX7_leap_17 : decode cX7_leap 17 = .ok (.invokestatic 66, 3) := by decide +kernel
theorem dX7_leap_20 : decode cX7_leap 20 = .ok (.ifCond .ne 6, 3) := by decide +kernel
theorem dX7_leap_23 : decode cX7_leap 23 = .ok (.bipush (-2), 2) := by decide +kernel
theorem dX7_leap_25 : decode cX7_leap 25 = .ok (.ireturn, 1) := by decide +kernel
theorem dX7_leap_26 : decode cX7_leap 26 = .ok (.aload_n 0, 1) := by decide +kernel
theorem dX7_leap_27 : decode cX7_leap 27 = .ok (.sipush 240, 3) := by decide +kernel
theorem dX7_leap_30 : decode cX7_leap 30 = .ok (.invokevirtual 101, 3) := by decide +kernel
theorem dX7_leap_33 : decode cX7_leap 33 = .ok (.iconst 1, 1) := by decide +kernel
theorem dX7_leap_34 : decode cX7_leap 34 = .ok (.istore_n 3, 1) := by decide +kernel
theorem dX7_leap_35 : decode cX7_leap 35 = .ok (.iconst 0, 1) := by decide +kernel
theorem dX7_leap_36 : decode cX7_leap 36 = .ok (.istore 4, 2) := by decide +kernel
theorem dX7_leap_38 : decode cX7_leap 38 = .ok (.iload 4, 2) := by decide +kernel
theorem dX7_leap_40 : decode cX7_leap 40 = .ok (.aload_n 0, 1) := by decide +kernel
theorem dX7_leap_41 : decode cX7_leap 41 = .ok (.getfield 87, 3) := by decide +kernel
theorem dX7_leap_44 : decode cX7_leap 44 = .ok (.if_icmp .ge 75, 3) := by decide +kernel
theorem dX7_leap_47 : decode cX7_leap 47 = .ok (.aload_n 0, 1) := by decide +kernel
theorem dX7_leap_48 : decode cX7_leap 48 = .ok (.getfield 26, 3) := by decide +kernel
theorem dX7_leap_51 : decode cX7_leap 51 = .ok (.iload 4, 2) := by decide +kernel
theorem dX7_leap_53 : decode cX7_leap 53 = .ok (.dup2, 1) := by decide +kernel
theorem dX7_leap_54 : decode cX7_leap 54 = .ok (.iaload, 1) := by decide +kernel
theorem dX7_leap_55 : decode cX7_leap 55 = .ok (.iload_n 2, 1) := by decide +kernel
theorem dX7_leap_56 : decode cX7_leap 56 = .ok (.iload_n 1, 1) := by decide +kernel
theorem dX7_leap_57 : decode cX7_leap 57 = .ok (.aload_n 0, 1) := by decide +kernel
theorem dX7_leap_58 : decode cX7_leap 58 = .ok (.getfield 23, 3) := by decide +kernel
theorem dX7_leap_61 : decode cX7_leap 61 = .ok (.iload 4, 2) := by decide +kernel
theorem dX7_leap_63 : decode cX7_leap 63 = .ok (.iaload, 1) := by decide +kernel
theorem dX7_leap_64 : decode cX7_leap 64 = .ok (.if_icmp .ge 7, 3) := by decide +kernel
theorem dX7_leap_67 : decode cX7_leap 67 = .ok (.iload_n 1, 1) := by decide +kernel
theorem dX7_leap_68 : decode cX7_leap 68 = .ok (.goto 10, 3) := by decide +kernel
theorem dX7_leap_71 : decode cX7_leap 71 = .ok (.aload_n 0, 1) := by decide +kernel
theorem dX7_leap_72 : decode cX7_leap 72 = .ok (.getfield 23, 3) := by decide +kernel
theorem dX7_leap_75 : decode cX7_leap 75 = .ok (.iload 4, 2) := by decide +kernel
theorem dX7_leap_77 : decode cX7_leap 77 = .ok (.iaload, 1) := by decide +kernel
theorem dX7_leap_78 : decode cX7_leap 78 = .ok (.imul, 1) := by decide +kernel
theorem dX7_leap_79 : decode cX7_leap 79 = .ok (.iadd, 1) := by decide +kernel
theorem dX7_leap_80 : decode cX7_leap 80 = .ok (.iastore, 1) := by decide +kernel
theorem dX7_leap_81 : decode cX7_leap 81 = .ok (.iload_n 3, 1) := by decide +kernel
theorem dX7_leap_82 : decode cX7_leap 82 = .ok (.aload_n 0, 1) := by decide +kernel
theorem dX7_leap_83 : decode cX7_leap 83 = .ok (.getfield 26, 3) := by decide +kernel
theorem dX7_leap_86 : decode cX7_leap 86 = .ok (.iload 4, 2) := by decide +kernel
theorem dX7_leap_88 : decode cX7_leap 88 = .ok (.iaload, 1) := by decide +kernel
theorem dX7_leap_89 : decode cX7_leap 89 = .ok (.aload_n 0, 1) := by decide +kernel
theorem dX7_leap_90 : decode cX7_leap 90 = .ok (.aload_n 0, 1) := by decide +kernel
theorem dX7_leap_91 : decode cX7_leap 91 = .ok (.getfield 23, 3) := by decide +kernel
theorem dX7_leap_94 : decode cX7_leap 94 = .ok (.iload 4, 2) := by decide +kernel
theorem dX7_leap_96 : decode cX7_leap 96 = .ok (.iaload, 1) := by decide +kernel
theorem dX7_leap_97 : decode cX7_leap 97 = .ok (.sipush 240, 3) := by decide +kernel
theorem dX7_leap_100 : decode cX7_leap 100 = .ok (.invokevirtual 90, 3) := by decide +kernel
theorem dX7_leap_103 : decode cX7_leap 103 = .ok (.if_icmp .gt 7, 3) := by decide +kernel
theorem dX7_leap_106 : decode cX7_leap 106 = .ok (.iconst 1, 1) := by decide +kernel
theorem dX7_leap_107 : decode cX7_leap 107 = .ok (.goto 4, 3) := by decide +kernel
theorem dX7_leap_110 : decode cX7_leap 110 = .ok (.iconst 0, 1) := by decide +kernel
theorem dX7_leap_111 : decode cX7_leap 111 = .ok (.iand, 1) := by decide +kernel
theorem dX7_leap_112 : decode cX7_leap 112 = .ok (.istore_n 3, 1) := by decide +kernel
theorem dX7_leap_113 : decode cX7_leap 113 = .ok (.iinc 4 1, 3) := by decide +kernel
theorem dX7_leap_116 : decode cX7_leap 116 = .ok (.goto (-78), 3) := by decide +kernel
theorem dX7_leap_119 : decode cX7_leap 119 = .ok (.iload_n 3, 1) := by decide +kernel
theorem dX7_leap_120 : decode cX7_leap 120 = .ok (.ifCond .eq 17, 3) := by decide +kernel
theorem dX7_leap_123 : decode cX7_leap 123 = .ok (.aload_n 0, 1) := by decide +kernel
theorem dX7_leap_124 : decode cX7_leap 124 = .ok (.invokevirtual 107, 3) := by decide +kernel
theorem dX7_leap_127 : decode cX7_leap 127 = .ok (.ifCond .eq 10, 3) := by decide +kernel
theorem dX7_leap_130 : decode cX7_leap 130 = .ok (.aload_n 0, 1) := by decide +kernel
theorem dX7_leap_131 : decode cX7_leap 131 = .ok (.invokevirtual 77, 3) := by decide +kernel
theorem dX7_leap_134 : decode cX7_leap 134 = .ok (.goto 5, 3) := by decide +kernel
theorem dX7_leap_137 : decode cX7_leap 137 = .ok (.bipush (-4), 2) := by decide +kernel
theorem dX7_leap_139 : decode cX7_leap 139 = .ok (.ireturn, 1) := by decide +kernel
theorem dX7_ringBalls_0 : decode cX7_ringBalls 0 = .ok (.iconst 0, 1) := by decide +kernel
theorem dX7_ringBalls_1 : decode cX7_ringBalls 1 = .ok (.istore_n 1, 1) := by decide +kernel
theorem dX7_ringBalls_2 : decode cX7_ringBalls 2 = .ok (.iconst 0, 1) := by decide +kernel
theorem dX7_ringBalls_3 : decode cX7_ringBalls 3 = .ok (.istore_n 2, 1) := by decide +kernel
theorem dX7_ringBalls_4 : decode cX7_ringBalls 4 = .ok (.iload_n 2, 1) := by decide +kernel
theorem dX7_ringBalls_5 : decode cX7_ringBalls 5 = .ok (.aload_n 0, 1) := by decide +kernel
theorem dX7_ringBalls_6 : decode cX7_ringBalls 6 = .ok (.getfield 38, 3) := by decide +kernel
theorem dX7_ringBalls_9 : decode cX7_ringBalls 9 = .ok (.if_icmp .ge 26, 3) := by decide +kernel
theorem dX7_ringBalls_12 : decode cX7_ringBalls 12 = .ok (.iload_n 1, 1) := by decide +kernel
theorem dX7_ringBalls_13 : decode cX7_ringBalls 13 = .ok (.aload_n 0, 1) := by decide +kernel
theorem dX7_ringBalls_14 : decode cX7_ringBalls 14 = .ok (.getfield 42, 3) := by decide +kernel
theorem dX7_ringBalls_17 : decode cX7_ringBalls 17 = .ok (.iload_n 2, 1) := by decide +kernel
theorem dX7_ringBalls_18 : decode cX7_ringBalls 18 = .ok (.baload, 1) := by decide +kernel
theorem dX7_ringBalls_19 : decode cX7_ringBalls 19 = .ok (.ifCond .eq 7, 3) := by decide +kernel
theorem dX7_ringBalls_22 : decode cX7_ringBalls 22 = .ok (.iconst 1, 1) := by decide +kernel
theorem dX7_ringBalls_23 : decode cX7_ringBalls 23 = .ok (.goto 4, 3) := by decide +kernel
theorem dX7_ringBalls_26 : decode cX7_ringBalls 26 = .ok (.iconst 0, 1) := by decide +kernel
theorem dX7_ringBalls_27 : decode cX7_ringBalls 27 = .ok (.iadd, 1) := by decide +kernel
theorem dX7_ringBalls_28 : decode cX7_ringBalls 28 = .ok (.istore_n 1, 1) := by decide +kernel
theorem dX7_ringBalls_29 : decode cX7_ringBalls 29 = .ok (.iinc 2 1, 3) := by decide +kernel
theorem dX7_ringBalls_32 : decode cX7_ringBalls 32 = .ok (.goto (-28), 3) := by decide +kernel
theorem dX7_ringBalls_35 : decode cX7_ringBalls 35 = .ok (.iload_n 1, 1) := by decide +kernel
theorem dX7_ringBalls_36 : decode cX7_ringBalls 36 = .ok (.ireturn, 1) := by decide +kernel
set_option maxRecDepth 20000 in
theorem ggX7_ring_X7_in : GoodIn wsX7_ring wsX7_in := goodIn_r _ [7] (by decide +kernel) (by decide +kernel)
set_option maxRecDepth 20000 in
theorem gX7_ring_X7_in : GoodIn wsX7_ring (va_wsS RX7 66 yX7_in wsX7_in) := goodIn_app (goodIn_of _ (by decide +kernel)) ggX7_ring_X7_in
theorem dX7_ring_0 : decode cX7_ring 0 = .ok (.iload_n 2, 1) := by decide +kernel
theorem dX7_ring_1 : decode cX7_ring 1 = .ok (.iconst 1, 1) := by decide +kernel
theorem dX7_ring_2 : decode cX7_ring 2 = .ok (.bipush 40, 2) := by decide +kernel
theorem dX7_ring_4 : decode cX7_ring 4 = .ok (.invokestatic 66, 3) := by decide +kernel
theorem dX7_ring_7 : decode cX7_ring 7 = .ok (.ifCond .eq 16, 3) := by decide +kernel
theorem dX7_ring_10 : decode cX7_ring 10 = .ok (.iload_n 1, 1) := by decide +kernel
theorem dX7_ring_11 : decode cX7_ring 11 = .ok (.iconst 0, 1) := by decide +kernel
theorem dX7_ring_12 : decode cX7_ring 12 = .ok (.sipush 240, 3) := by decide +kernel
theorem dX7_ring_15 : decode cX7_ring 15 = .ok (.iload_n 2, 1) := by decide +kernel
theorem dX7_ring_16 : decode cX7_ring 16 = .ok (.isub, 1) := by decide +kernel
theorem dX7_ring_17 : decode cX7_ring 17 = .ok (.invokestatic 66, 3) := by decide +kernel
theorem dX7_ring_20 : decode cX7_ring 20 = .ok (.ifCond .ne 6, 3) := by decide +kernel
theorem dX7_ring_23 : decode cX7_ring 23 = .ok (.bipush (-2), 2) := by decide +kernel
theorem dX7_ring_25 : decode cX7_ring 25 = .ok (.ireturn, 1) := by decide +kernel
theorem dX7_ring_26 : decode cX7_ring 26 = .ok (.iconst 0, 1) := by decide +kernel
theorem dX7_ring_27 : decode cX7_ring 27 = .ok (.istore_n 3, 1) := by decide +kernel
theorem dX7_ring_28 : decode cX7_ring 28 = .ok (.iconst 0, 1) := by decide +kernel
theorem dX7_ring_29 : decode cX7_ring 29 = .ok (.istore 4, 2) := by decide +kernel
theorem dX7_ring_31 : decode cX7_ring 31 = .ok (.iload 4, 2) := by decide +kernel
theorem dX7_ring_33 : decode cX7_ring 33 = .ok (.iload_n 2, 1) := by decide +kernel
theorem dX7_ring_34 : decode cX7_ring 34 = .ok (.if_icmp .ge 29, 3) := by decide +kernel
theorem dX7_ring_37 : decode cX7_ring 37 = .ok (.iload_n 3, 1) := by decide +kernel
theorem dX7_ring_38 : decode cX7_ring 38 = .ok (.aload_n 0, 1) := by decide +kernel
theorem dX7_ring_39 : decode cX7_ring 39 = .ok (.getfield 7, 3) := by decide +kernel
theorem dX7_ring_42 : decode cX7_ring 42 = .ok (.iload_n 1, 1) := by decide +kernel
theorem dX7_ring_43 : decode cX7_ring 43 = .ok (.iload 4, 2) := by decide +kernel
theorem dX7_ring_45 : decode cX7_ring 45 = .ok (.iadd, 1) := by decide +kernel
theorem dX7_ring_46 : decode cX7_ring 46 = .ok (.baload, 1) := by decide +kernel
theorem dX7_ring_47 : decode cX7_ring 47 = .ok (.ifCond .eq 7, 3) := by decide +kernel
theorem dX7_ring_50 : decode cX7_ring 50 = .ok (.iconst 1, 1) := by decide +kernel
theorem dX7_ring_51 : decode cX7_ring 51 = .ok (.goto 4, 3) := by decide +kernel
theorem dX7_ring_54 : decode cX7_ring 54 = .ok (.iconst 0, 1) := by decide +kernel
theorem dX7_ring_55 : decode cX7_ring 55 = .ok (.iadd, 1) := by decide +kernel
theorem dX7_ring_56 : decode cX7_ring 56 = .ok (.istore_n 3, 1) := by decide +kernel
theorem dX7_ring_57 : decode cX7_ring 57 = .ok (.iinc 4 1, 3) := by decide +kernel
theorem dX7_ring_60 : decode cX7_ring 60 = .ok (.goto (-29), 3) := by decide +kernel
theorem dX7_ring_63 : decode cX7_ring 63 = .ok (.iconst 2, 1) := by decide +kernel
theorem dX7_ring_64 : decode cX7_ring 64 = .ok (.iload_n 3, 1) := by decide +kernel
theorem dX7_ring_65 : decode cX7_ring 65 = .ok (.imul, 1) := by decide +kernel
theorem dX7_ring_66 : decode cX7_ring 66 = .ok (.iload_n 2, 1) := by decide +kernel
theorem dX7_ring_67 : decode cX7_ring 67 = .ok (.if_icmp .lt 6, 3) := by decide +kernel
theorem dX7_ring_70 : decode cX7_ring 70 = .ok (.bipush (-3), 2) := by decide +kernel
theorem dX7_ring_72 : decode cX7_ring 72 = .ok (.ireturn, 1) := by decide +kernel
theorem dX7_ring_73 : decode cX7_ring 73 = .ok (.aload_n 0, 1) := by decide +kernel
theorem dX7_ring_74 : decode cX7_ring 74 = .ok (.iload_n 2, 1) := by decide +kernel
theorem dX7_ring_75 : decode cX7_ring 75 = .ok (.putfield 38, 3) := by decide +kernel
theorem dX7_ring_78 : decode cX7_ring 78 = .ok (.iconst 0, 1) := by decide +kernel
theorem dX7_ring_79 : decode cX7_ring 79 = .ok (.istore 4, 2) := by decide +kernel
theorem dX7_ring_81 : decode cX7_ring 81 = .ok (.iload 4, 2) := by decide +kernel
theorem dX7_ring_83 : decode cX7_ring 83 = .ok (.iload_n 2, 1) := by decide +kernel
theorem dX7_ring_84 : decode cX7_ring 84 = .ok (.if_icmp .ge 25, 3) := by decide +kernel
theorem dX7_ring_87 : decode cX7_ring 87 = .ok (.aload_n 0, 1) := by decide +kernel
theorem dX7_ring_88 : decode cX7_ring 88 = .ok (.getfield 42, 3) := by decide +kernel
theorem dX7_ring_91 : decode cX7_ring 91 = .ok (.iload 4, 2) := by decide +kernel
theorem dX7_ring_93 : decode cX7_ring 93 = .ok (.aload_n 0, 1) := by decide +kernel
theorem dX7_ring_94 : decode cX7_ring 94 = .ok (.getfield 7, 3) := by decide +kernel
theorem dX7_ring_97 : decode cX7_ring 97 = .ok (.iload_n 1, 1) := by decide +kernel
theorem dX7_ring_98 : decode cX7_ring 98 = .ok (.iload 4, 2) := by decide +kernel
theorem dX7_ring_100 : decode cX7_ring 100 = .ok (.iadd, 1) := by decide +kernel
theorem dX7_ring_101 : decode cX7_ring 101 = .ok (.baload, 1) := by decide +kernel
theorem dX7_ring_102 : decode cX7_ring 102 = .ok (.bastore, 1) := by decide +kernel
theorem dX7_ring_103 : decode cX7_ring 103 = .ok (.iinc 4 1, 3) := by decide +kernel
theorem dX7_ring_106 : decode cX7_ring 106 = .ok (.goto (-25), 3) := by decide +kernel
theorem dX7_ring_109 : decode cX7_ring 109 = .ok (.iload_n 3, 1) := by decide +kernel
theorem dX7_ring_110 : decode cX7_ring 110 = .ok (.ireturn, 1) := by decide +kernel
set_option maxRecDepth 20000 in
theorem ggX7_ringAt_X7_in : GoodIn wsX7_ringAt wsX7_in := goodIn_r _ [6] (by decide +kernel) (by decide +kernel)
set_option maxRecDepth 20000 in
theorem gX7_ringAt_X7_in : GoodIn wsX7_ringAt (va_wsS RX7 66 yX7_in wsX7_in) := goodIn_app (goodIn_of _ (by decide +kernel)) ggX7_ringAt_X7_in
theorem dX7_ringAt_0 : decode cX7_ringAt 0 = .ok (.iload_n 1, 1) := by decide +kernel
theorem dX7_ringAt_1 : decode cX7_ringAt 1 = .ok (.iconst 0, 1) := by decide +kernel
theorem dX7_ringAt_2 : decode cX7_ringAt 2 = .ok (.aload_n 0, 1) := by decide +kernel
theorem dX7_ringAt_3 : decode cX7_ringAt 3 = .ok (.getfield 38, 3) := by decide +kernel
theorem dX7_ringAt_6 : decode cX7_ringAt 6 = .ok (.iconst 1, 1) := by decide +kernel
theorem dX7_ringAt_7 : decode cX7_ringAt 7 = .ok (.isub, 1) := by decide +kernel
theorem dX7_ringAt_8 : decode cX7_ringAt 8 = .ok (.invokestatic 66, 3) := by decide +kernel
theorem dX7_ringAt_11 : decode cX7_ringAt 11 = .ok (.ifCond .eq 20, 3) := by decide +kernel
theorem dX7_ringAt_14 : decode cX7_ringAt 14 = .ok (.aload_n 0, 1) := by decide +kernel
theorem dX7_ringAt_15 : decode cX7_ringAt 15 = .ok (.getfield 42, 3) := by decide +kernel
theorem dX7_ringAt_18 : decode cX7_ringAt 18 = .ok (.iload_n 1, 1) := by decide +kernel
theorem dX7_ringAt_19 : decode cX7_ringAt 19 = .ok (.baload, 1) := by decide +kernel
theorem dX7_ringAt_20 : decode cX7_ringAt 20 = .ok (.ifCond .eq 7, 3) := by decide +kernel
theorem dX7_ringAt_23 : decode cX7_ringAt 23 = .ok (.iconst 1, 1) := by decide +kernel
theorem dX7_ringAt_24 : decode cX7_ringAt 24 = .ok (.goto 9, 3) := by decide +kernel
theorem dX7_ringAt_27 : decode cX7_ringAt 27 = .ok (.iconst 0, 1) := by decide +kernel
theorem dX7_ringAt_28 : decode cX7_ringAt 28 = .ok (.goto 5, 3) := by decide +kernel
theorem dX7_ringAt_31 : decode cX7_ringAt 31 = .ok (.bipush (-2), 2) := by decide +kernel
theorem dX7_ringAt_33 : decode cX7_ringAt 33 = .ok (.ireturn, 1) := by decide +kernel
theorem dX7_turns_0 : decode cX7_turns 0 = .ok (.iconst 0, 1) := by decide +kernel
theorem dX7_turns_1 : decode cX7_turns 1 = .ok (.istore_n 2, 1) := by decide +kernel
theorem dX7_turns_2 : decode cX7_turns 2 = .ok (.iconst 0, 1) := by decide +kernel
theorem dX7_turns_3 : decode cX7_turns 3 = .ok (.istore_n 3, 1) := by decide +kernel
theorem dX7_turns_4 : decode cX7_turns 4 = .ok (.iload_n 3, 1) := by decide +kernel
theorem dX7_turns_5 : decode cX7_turns 5 = .ok (.aload_n 0, 1) := by decide +kernel
theorem dX7_turns_6 : decode cX7_turns 6 = .ok (.getfield 38, 3) := by decide +kernel
theorem dX7_turns_9 : decode cX7_turns 9 = .ok (.if_icmp .ge 43, 3) := by decide +kernel
theorem dX7_turns_12 : decode cX7_turns 12 = .ok (.iload_n 2, 1) := by decide +kernel
theorem dX7_turns_13 : decode cX7_turns 13 = .ok (.aload_n 0, 1) := by decide +kernel
theorem dX7_turns_14 : decode cX7_turns 14 = .ok (.getfield 42, 3) := by decide +kernel
theorem dX7_turns_17 : decode cX7_turns 17 = .ok (.iload_n 3, 1) := by decide +kernel
theorem dX7_turns_18 : decode cX7_turns 18 = .ok (.baload, 1) := by decide +kernel
theorem dX7_turns_19 : decode cX7_turns 19 = .ok (.ifCond .eq 16, 3) := by decide +kernel
theorem dX7_turns_22 : decode cX7_turns 22 = .ok (.iload_n 2, 1) := by decide +kernel
theorem dX7_turns_23 : decode cX7_turns 23 = .ok (.iload_n 1, 1) := by decide +kernel
theorem dX7_turns_24 : decode cX7_turns 24 = .ok (.if_icmp .ge 7, 3) := by decide +kernel
theorem dX7_turns_27 : decode cX7_turns 27 = .ok (.iconst 1, 1) := by decide +kernel
theorem dX7_turns_28 : decode cX7_turns 28 = .ok (.goto 16, 3) := by decide +kernel
theorem dX7_turns_31 : decode cX7_turns 31 = .ok (.iconst 0, 1) := by decide +kernel
theorem dX7_turns_32 : decode cX7_turns 32 = .ok (.goto 12, 3) := by decide +kernel
theorem dX7_turns_35 : decode cX7_turns 35 = .ok (.iload_n 2, 1) := by decide +kernel
theorem dX7_turns_36 : decode cX7_turns 36 = .ok (.ifCond .le 7, 3) := by decide +kernel
theorem dX7_turns_39 : decode cX7_turns 39 = .ok (.iconst (-1), 1) := by decide +kernel
theorem dX7_turns_40 : decode cX7_turns 40 = .ok (.goto 4, 3) := by decide +kernel
theorem dX7_turns_43 : decode cX7_turns 43 = .ok (.iconst 0, 1) := by decide +kernel
theorem dX7_turns_44 : decode cX7_turns 44 = .ok (.iadd, 1) := by decide +kernel
theorem dX7_turns_45 : decode cX7_turns 45 = .ok (.istore_n 2, 1) := by decide +kernel
theorem dX7_turns_46 : decode cX7_turns 46 = .ok (.iinc 3 1, 3) := by decide +kernel
theorem dX7_turns_49 : decode cX7_turns 49 = .ok (.goto (-45), 3) := by decide +kernel
theorem dX7_turns_52 : decode cX7_turns 52 = .ok (.iload_n 2, 1) := by decide +kernel
theorem dX7_turns_53 : decode cX7_turns 53 = .ok (.istore_n 3, 1) := by decide +kernel
theorem dX7_turns_54 : decode cX7_turns 54 = .ok (.iconst 0, 1) := by decide +kernel
theorem dX7_turns_55 : decode cX7_turns 55 = .ok (.istore 4, 2) := by decide +kernel
theorem dX7_turns_57 : decode cX7_turns 57 = .ok (.iload 4, 2) := by decide +kernel
theorem dX7_turns_59 : decode cX7_turns 59 = .ok (.aload_n 0, 1) := by decide +kernel
theorem dX7_turns_60 : decode cX7_turns 60 = .ok (.getfield 38, 3) := by decide +kernel
theorem dX7_turns_63 : decode cX7_turns 63 = .ok (.if_icmp .ge 63, 3) := by decide +kernel
theorem dX7_turns_66 : decode cX7_turns 66 = .ok (.aload_n 0, 1) := by decide +kernel
theorem dX7_turns_67 : decode cX7_turns 67 = .ok (.getfield 42, 3) := by decide +kernel
theorem dX7_turns_70 : decode cX7_turns 70 = .ok (.iload 4, 2) := by decide +kernel
theorem dX7_turns_72 : decode cX7_turns 72 = .ok (.baload, 1) := by decide +kernel
theorem dX7_turns_73 : decode cX7_turns 73 = .ok (.ifCond .eq 22, 3) := by decide +kernel
theorem dX7_turns_76 : decode cX7_turns 76 = .ok (.iload_n 2, 1) := by decide +kernel
theorem dX7_turns_77 : decode cX7_turns 77 = .ok (.iload_n 1, 1) := by decide +kernel
theorem dX7_turns_78 : decode cX7_turns 78 = .ok (.if_icmp .ge 17, 3) := by decide +kernel
theorem dX7_turns_81 : decode cX7_turns 81 = .ok (.aload_n 0, 1) := by decide +kernel
theorem dX7_turns_82 : decode cX7_turns 82 = .ok (.getfield 42, 3) := by decide +kernel
theorem dX7_turns_85 : decode cX7_turns 85 = .ok (.iload 4, 2) := by decide +kernel
theorem dX7_turns_87 : decode cX7_turns 87 = .ok (.iconst 0, 1) := by decide +kernel
theorem dX7_turns_88 : decode cX7_turns 88 = .ok (.bastore, 1) := by decide +kernel
theorem dX7_turns_89 : decode cX7_turns 89 = .ok (.iinc 2 1, 3) := by decide +kernel
theorem dX7_turns_92 : decode cX7_turns 92 = .ok (.goto 28, 3) := by decide +kernel
theorem dX7_turns_95 : decode cX7_turns 95 = .ok (.aload_n 0, 1) := by decide +kernel
theorem dX7_turns_96 : decode cX7_turns 96 = .ok (.getfield 42, 3) := by decide +kernel
theorem dX7_turns_99 : decode cX7_turns 99 = .ok (.iload 4, 2) := by decide +kernel
theorem dX7_turns_101 : decode cX7_turns 101 = .ok (.baload, 1) := by decide +kernel
theorem dX7_turns_102 : decode cX7_turns 102 = .ok (.ifCond .ne 18, 3) := by decide +kernel
theorem dX7_turns_105 : decode cX7_turns 105 = .ok (.iload_n 2, 1) := by decide +kernel
theorem dX7_turns_106 : decode cX7_turns 106 = .ok (.ifCond .le 14, 3) := by decide +kernel
theorem dX7_turns_109 : decode cX7_turns 109 = .ok (.aload_n 0, 1) := by decide +kernel
theorem dX7_turns_110 : decode cX7_turns 110 = .ok (.getfield 42, 3) := by decide +kernel
theorem dX7_turns_113 : decode cX7_turns 113 = .ok (.iload 4, 2) := by decide +kernel
theorem dX7_turns_115 : decode cX7_turns 115 = .ok (.iconst 1, 1) := by decide +kernel
theorem dX7_turns_116 : decode cX7_turns 116 = .ok (.bastore, 1) := by decide +kernel
theorem dX7_turns_117 : decode cX7_turns 117 = .ok (.iinc 2 (-1), 3) := by decide +kernel
theorem dX7_turns_120 : decode cX7_turns 120 = .ok (.iinc 4 1, 3) := by decide +kernel
theorem dX7_turns_123 : decode cX7_turns 123 = .ok (.goto (-66), 3) := by decide +kernel
theorem dX7_turns_126 : decode cX7_turns 126 = .ok (.iload_n 3, 1) := by decide +kernel
theorem dX7_turns_127 : decode cX7_turns 127 = .ok (.ireturn, 1) := by decide +kernel
set_option maxRecDepth 20000 in
theorem ggX7_turn_X7_in : GoodIn wsX7_turn wsX7_in := goodIn_r _ [4] (by decide +kernel) (by decide +kernel)
set_option maxRecDepth 20000 in
theorem gX7_turn_X7_in : GoodIn wsX7_turn (va_wsS RX7 66 yX7_in wsX7_in) := goodIn_app (goodIn_of _ (by decide +kernel)) ggX7_turn_X7_in
set_option maxRecDepth 20000 in
theorem ggX7_turn_X7_turns : GoodIn wsX7_turn wsX7_turns := goodIn_r _ [8, 9, 10, 11, 12, 13, 14, 15, 16, 17, 18, 19, 20, 21, 22, 23, 24, 25, 26, 27, 28, 29, 30, 31, 32] (by decide +kernel) (by decide +kernel)
set_option maxRecDepth 20000 in
theorem gX7_turn_X7_turns : GoodIn wsX7_turn (wsV RX7 111 RX7 yX7_turns wsX7_turns) := goodIn_app (goodIn_of _ (by decide +kernel)) ggX7_turn_X7_turns
theorem dX7_turn_0 : decode cX7_turn 0 = .ok (.iload_n 1, 1) := by decide +kernel
theorem dX7_turn_1 : decode cX7_turn 1 = .ok (.iconst 1, 1) := by decide +kernel
theorem dX7_turn_2 : decode cX7_turn 2 = .ok (.bipush 50, 2) := by decide +kernel
theorem dX7_turn_4 : decode cX7_turn 4 = .ok (.invokestatic 66, 3) := by decide +kernel
theorem dX7_turn_7 : decode cX7_turn 7 = .ok (.ifCond .eq 11, 3) := by decide +kernel
theorem dX7_turn_10 : decode cX7_turn 10 = .ok (.aload_n 0, 1) := by decide +kernel
theorem dX7_turn_11 : decode cX7_turn 11 = .ok (.iload_n 1, 1) := by decide +kernel
theorem dX7_turn_12 : decode cX7_turn 12 = .ok (.invokevirtual 111, 3) := by decide +kernel
theorem dX7_turn_15 : decode cX7_turn 15 = .ok (.goto 5, 3) := by decide +kernel
theorem dX7_turn_18 : decode cX7_turn 18 = .ok (.bipush (-2), 2) := by decide +kernel
theorem dX7_turn_20 : decode cX7_turn 20 = .ok (.ireturn, 1) := by decide +kernel
theorem dX7_isAsWas_0 : decode cX7_isAsWas 0 = .ok (.iconst 0, 1) := by decide +kernel
theorem dX7_isAsWas_1 : decode cX7_isAsWas 1 = .ok (.istore_n 1, 1) := by decide +kernel
theorem dX7_isAsWas_2 : decode cX7_isAsWas 2 = .ok (.iload_n 1, 1) := by decide +kernel
theorem dX7_isAsWas_3 : decode cX7_isAsWas 3 = .ok (.aload_n 0, 1) := by decide +kernel
theorem dX7_isAsWas_4 : decode cX7_isAsWas 4 = .ok (.getfield 38, 3) := by decide +kernel
theorem dX7_isAsWas_7 : decode cX7_isAsWas 7 = .ok (.if_icmp .ge 26, 3) := by decide +kernel
theorem dX7_isAsWas_10 : decode cX7_isAsWas 10 = .ok (.aload_n 0, 1) := by decide +kernel
theorem dX7_isAsWas_11 : decode cX7_isAsWas 11 = .ok (.getfield 42, 3) := by decide +kernel
theorem dX7_isAsWas_14 : decode cX7_isAsWas 14 = .ok (.iload_n 1, 1) := by decide +kernel
theorem dX7_isAsWas_15 : decode cX7_isAsWas 15 = .ok (.baload, 1) := by decide +kernel
theorem dX7_isAsWas_16 : decode cX7_isAsWas 16 = .ok (.aload_n 0, 1) := by decide +kernel
theorem dX7_isAsWas_17 : decode cX7_isAsWas 17 = .ok (.getfield 45, 3) := by decide +kernel
theorem dX7_isAsWas_20 : decode cX7_isAsWas 20 = .ok (.iload_n 1, 1) := by decide +kernel
theorem dX7_isAsWas_21 : decode cX7_isAsWas 21 = .ok (.baload, 1) := by decide +kernel
theorem dX7_isAsWas_22 : decode cX7_isAsWas 22 = .ok (.if_icmp .eq 5, 3) := by decide +kernel
theorem dX7_isAsWas_25 : decode cX7_isAsWas 25 = .ok (.iconst 0, 1) := by decide +kernel
theorem dX7_isAsWas_26 : decode cX7_isAsWas 26 = .ok (.ireturn, 1) := by decide +kernel
theorem dX7_isAsWas_27 : decode cX7_isAsWas 27 = .ok (.iinc 1 1, 3) := by decide +kernel
theorem dX7_isAsWas_30 : decode cX7_isAsWas 30 = .ok (.goto (-28), 3) := by decide +kernel
theorem dX7_isAsWas_33 : decode cX7_isAsWas 33 = .ok (.iconst 1, 1) := by decide +kernel
theorem dX7_isAsWas_34 : decode cX7_isAsWas 34 = .ok (.ireturn, 1) := by decide +kernel
set_option maxRecDepth 20000 in
theorem ggX7_periodOf_X7_turns : GoodIn wsX7_periodOf wsX7_turns := goodIn_r _ [8, 1, 3, 13, 14, 15, 16, 17, 18, 19, 20, 21, 22, 23, 24, 25, 26, 27, 28, 29, 30, 31, 32, 33, 34] (by decide +kernel) (by decide +kernel)
set_option maxRecDepth 20000 in
theorem gX7_periodOf_X7_turns : GoodIn wsX7_periodOf (wsV RX7 111 RX7 yX7_turns wsX7_turns) := goodIn_app (goodIn_of _ (by decide +kernel)) ggX7_periodOf_X7_turns
set_option maxRecDepth 20000 in
theorem ggX7_periodOf_X7_isAsWas : GoodIn wsX7_periodOf wsX7_isAsWas := goodIn_r _ [12, 1, 3, 2, 13, 14, 15, 16, 17, 18, 19, 20, 21, 22, 23, 24, 25, 26, 27, 28, 29, 30, 31, 32, 33, 34] (by decide +kernel) (by decide +kernel)
set_option maxRecDepth 20000 in
theorem gX7_periodOf_X7_isAsWas : GoodIn wsX7_periodOf (wsV RX7 115 RX7 yX7_isAsWas wsX7_isAsWas) := goodIn_app (goodIn_of _ (by decide +kernel)) ggX7_periodOf_X7_isAsWas
theorem dX7_periodOf_0 : decode cX7_periodOf 0 = .ok (.iconst 0, 1) := by decide +kernel
theorem dX7_periodOf_1 : decode cX7_periodOf 1 = .ok (.istore_n 2, 1) := by decide +kernel
theorem dX7_periodOf_2 : decode cX7_periodOf 2 = .ok (.iload_n 2, 1) := by decide +kernel
theorem dX7_periodOf_3 : decode cX7_periodOf 3 = .ok (.aload_n 0, 1) := by decide +kernel
theorem dX7_periodOf_4 : decode cX7_periodOf 4 = .ok (.getfield 38, 3) := by decide +kernel
theorem dX7_periodOf_7 : decode cX7_periodOf 7 = .ok (.if_icmp .ge 21, 3) := by decide +kernel
theorem dX7_periodOf_10 : decode cX7_periodOf 10 = .ok (.aload_n 0, 1) := by decide +kernel
theorem dX7_periodOf_11 : decode cX7_periodOf 11 = .ok (.getfield 45, 3) := by decide +kernel
theorem dX7_periodOf_14 : decode cX7_periodOf 14 = .ok (.iload_n 2, 1) := by decide +kernel
theorem dX7_periodOf_15 : decode cX7_periodOf 15 = .ok (.aload_n 0, 1) := by decide +kernel
theorem dX7_periodOf_16 : decode cX7_periodOf 16 = .ok (.getfield 42, 3) := by decide +kernel
theorem dX7_periodOf_19 : decode cX7_periodOf 19 = .ok (.iload_n 2, 1) := by decide +kernel
theorem dX7_periodOf_20 : decode cX7_periodOf 20 = .ok (.baload, 1) := by decide +kernel
theorem dX7_periodOf_21 : decode cX7_periodOf 21 = .ok (.bastore, 1) := by decide +kernel
theorem dX7_periodOf_22 : decode cX7_periodOf 22 = .ok (.iinc 2 1, 3) := by decide +kernel
theorem dX7_periodOf_25 : decode cX7_periodOf 25 = .ok (.goto (-23), 3) := by decide +kernel
theorem dX7_periodOf_28 : decode cX7_periodOf 28 = .ok (.iconst 1, 1) := by decide +kernel
theorem dX7_periodOf_29 : decode cX7_periodOf 29 = .ok (.istore_n 2, 1) := by decide +kernel
theorem dX7_periodOf_30 : decode cX7_periodOf 30 = .ok (.iload_n 2, 1) := by decide +kernel
theorem dX7_periodOf_31 : decode cX7_periodOf 31 = .ok (.sipush 20000, 3) := by decide +kernel
theorem dX7_periodOf_34 : decode cX7_periodOf 34 = .ok (.if_icmp .gt 24, 3) := by decide +kernel
theorem dX7_periodOf_37 : decode cX7_periodOf 37 = .ok (.aload_n 0, 1) := by decide +kernel
theorem dX7_periodOf_38 : decode cX7_periodOf 38 = .ok (.iload_n 1, 1) := by decide +kernel
theorem dX7_periodOf_39 : decode cX7_periodOf 39 = .ok (.invokevirtual 111, 3) := by decide +kernel
theorem dX7_periodOf_42 : decode cX7_periodOf 42 = .ok (.istore_n 3, 1) := by decide +kernel
theorem dX7_periodOf_43 : decode cX7_periodOf 43 = .ok (.aload_n 0, 1) := by decide +kernel
theorem dX7_periodOf_44 : decode cX7_periodOf 44 = .ok (.invokevirtual 115, 3) := by decide +kernel
theorem dX7_periodOf_47 : decode cX7_periodOf 47 = .ok (.ifCond .eq 5, 3) := by decide +kernel
theorem dX7_periodOf_50 : decode cX7_periodOf 50 = .ok (.iload_n 2, 1) := by decide +kernel
theorem dX7_periodOf_51 : decode cX7_periodOf 51 = .ok (.ireturn, 1) := by decide +kernel
theorem dX7_periodOf_52 : decode cX7_periodOf 52 = .ok (.iinc 2 1, 3) := by decide +kernel
theorem dX7_periodOf_55 : decode cX7_periodOf 55 = .ok (.goto (-25), 3) := by decide +kernel
theorem dX7_periodOf_58 : decode cX7_periodOf 58 = .ok (.iconst 0, 1) := by decide +kernel
theorem dX7_periodOf_59 : decode cX7_periodOf 59 = .ok (.istore_n 2, 1) := by decide +kernel
theorem dX7_periodOf_60 : decode cX7_periodOf 60 = .ok (.iload_n 2, 1) := by decide +kernel
theorem dX7_periodOf_61 : decode cX7_periodOf 61 = .ok (.aload_n 0, 1) := by decide +kernel
theorem dX7_periodOf_62 : decode cX7_periodOf 62 = .ok (.getfield 38, 3) := by decide +kernel
theorem dX7_periodOf_65 : decode cX7_periodOf 65 = .ok (.if_icmp .ge 21, 3) := by decide +kernel
theorem dX7_periodOf_68 : decode cX7_periodOf 68 = .ok (.aload_n 0, 1) := by decide +kernel
theorem dX7_periodOf_69 : decode cX7_periodOf 69 = .ok (.getfield 42, 3) := by decide +kernel
theorem dX7_periodOf_72 : decode cX7_periodOf 72 = .ok (.iload_n 2, 1) := by decide +kernel
theorem dX7_periodOf_73 : decode cX7_periodOf 73 = .ok (.aload_n 0, 1) := by decide +kernel
theorem dX7_periodOf_74 : decode cX7_periodOf 74 = .ok (.getfield 45, 3) := by decide +kernel
theorem dX7_periodOf_77 : decode cX7_periodOf 77 = .ok (.iload_n 2, 1) := by decide +kernel
theorem dX7_periodOf_78 : decode cX7_periodOf 78 = .ok (.baload, 1) := by decide +kernel
theorem dX7_periodOf_79 : decode cX7_periodOf 79 = .ok (.bastore, 1) := by decide +kernel
theorem dX7_periodOf_80 : decode cX7_periodOf 80 = .ok (.iinc 2 1, 3) := by decide +kernel
theorem dX7_periodOf_83 : decode cX7_periodOf 83 = .ok (.goto (-23), 3) := by decide +kernel
theorem dX7_periodOf_86 : decode cX7_periodOf 86 = .ok (.bipush (-5), 2) := by decide +kernel
theorem dX7_periodOf_88 : decode cX7_periodOf 88 = .ok (.ireturn, 1) := by decide +kernel
set_option maxRecDepth 20000 in
theorem ggX7_period_X7_in : GoodIn wsX7_period wsX7_in := goodIn_r _ [4] (by decide +kernel) (by decide +kernel)
set_option maxRecDepth 20000 in
theorem gX7_period_X7_in : GoodIn wsX7_period (va_wsS RX7 66 yX7_in wsX7_in) := goodIn_app (goodIn_of _ (by decide +kernel)) ggX7_period_X7_in
set_option maxRecDepth 20000 in
theorem ggX7_period_X7_periodOf : GoodIn wsX7_period wsX7_periodOf := goodIn_r _ [8, 9, 10, 11, 12, 13, 14, 3, 15, 16, 17, 18, 19, 20, 21, 22, 23, 24, 25, 26, 27, 28, 29, 30, 31, 32, 33, 34, 35, 36, 37, 38, 39, 40, 41] (by decide +kernel) (by decide +kernel)
set_option maxRecDepth 20000 in
theorem gX7_period_X7_periodOf : GoodIn wsX7_period (wsV RX7 118 RX7 yX7_periodOf wsX7_periodOf) := goodIn_app (goodIn_of _ (by decide +kernel)) ggX7_period_X7_periodOf
theorem dX7_period_0 : decode cX7_period 0 = .ok (.iload_n 1, 1) := by decide +kernel
theorem dX7_period_1 : decode cX7_period 1 = .ok (.iconst 1, 1) := by decide +kernel
theorem dX7_period_2 : decode cX7_period 2 = .ok (.bipush 50, 2) := by decide +kernel
theorem dX7_period_4 : decode cX7_period 4 = .ok (.invokestatic 66, 3) := by decide +kernel
theorem dX7_period_7 : decode cX7_period 7 = .ok (.ifCond .eq 11, 3) := by decide +kernel
theorem dX7_period_10 : decode cX7_period 10 = .ok (.aload_n 0, 1) := by decide +kernel
theorem dX7_period_11 : decode cX7_period 11 = .ok (.iload_n 1, 1) := by decide +kernel
theorem dX7_period_12 : decode cX7_period 12 = .ok (.invokevirtual 118, 3) := by decide +kernel
theorem dX7_period_15 : decode cX7_period 15 = .ok (.goto 5, 3) := by decide +kernel
theorem dX7_period_18 : decode cX7_period 18 = .ok (.bipush (-2), 2) := by decide +kernel
theorem dX7_period_20 : decode cX7_period 20 = .ok (.ireturn, 1) := by decide +kernel
set_option maxRecDepth 20000 in
theorem ggX7_rings_X7_in : GoodIn wsX7_rings wsX7_in := goodIn_r _ [8] (by decide +kernel) (by decide +kernel)
set_option maxRecDepth 20000 in
theorem gX7_rings_X7_in : GoodIn wsX7_rings (va_wsS RX7 66 yX7_in wsX7_in) := goodIn_app (goodIn_of _ (by decide +kernel)) ggX7_rings_X7_in
set_option maxRecDepth 20000 in
theorem ggX7_rings_X7_periodOf : GoodIn wsX7_rings wsX7_periodOf := goodIn_r _ [12, 2, 13, 4, 14, 15, 16, 7, 17, 18, 19, 20, 21, 22, 23, 24, 25, 26, 27, 28, 29, 30, 31, 32, 33, 34, 35, 36, 37, 38, 39, 40, 41, 42, 43] (by decide +kernel) (by decide +kernel)
set_option maxRecDepth 20000 in
theorem gX7_rings_X7_periodOf : GoodIn wsX7_rings (wsV RX7 118 RX7 yX7_periodOf wsX7_periodOf) := goodIn_app (goodIn_of _ (by decide +kernel)) ggX7_rings_X7_periodOf
theorem dX7_rings_0 : decode cX7_rings 0 = .ok (.iload_n 1, 1) := by decide +kernel
theorem dX7_rings_1 : decode cX7_rings 1 = .ok (.iconst 1, 1) := by decide +kernel
theorem dX7_rings_2 : decode cX7_rings 2 = .ok (.bipush 12, 2) := by decide +kernel
theorem dX7_rings_4 : decode cX7_rings 4 = .ok (.invokestatic 66, 3) := by decide +kernel
theorem dX7_rings_7 : decode cX7_rings 7 = .ok (.ifCond .eq 34, 3) := by decide +kernel
theorem dX7_rings_10 : decode cX7_rings 10 = .ok (.iload_n 2, 1) := by decide +kernel
theorem dX7_rings_11 : decode cX7_rings 11 = .ok (.ifCond .lt 30, 3) := by decide +kernel
theorem dX7_rings_14 : decode cX7_rings 14 = .ok (.ldc2_w 121, 3) := by decide +kernel
theorem dX7_rings_17 : decode cX7_rings 17 = .ok (.iload_n 2, 1) := by decide +kernel
theorem dX7_rings_18 : decode cX7_rings 18 = .ok (.i2l, 1) := by decide +kernel
theorem dX7_rings_19 : decode cX7_rings 19 = .ok (.lmul, 1) := by decide +kernel
theorem dX7_rings_20 : decode cX7_rings 20 = .ok (.iload_n 1, 1) := by decide +kernel
theorem dX7_rings_21 : decode cX7_rings 21 = .ok (.i2l, 1) := by decide +kernel
theorem dX7_rings_22 : decode cX7_rings 22 = .ok (.lcmp, 1) := by decide +kernel
theorem dX7_rings_23 : decode cX7_rings 23 = .ok (.ifCond .ge 18, 3) := by decide +kernel
theorem dX7_rings_26 : decode cX7_rings 26 = .ok (.iload_n 3, 1) := by decide +kernel
theorem dX7_rings_27 : decode cX7_rings 27 = .ok (.iconst 1, 1) := by decide +kernel
theorem dX7_rings_28 : decode cX7_rings 28 = .ok (.bipush 50, 2) := by decide +kernel
theorem dX7_rings_30 : decode cX7_rings 30 = .ok (.invokestatic 66, 3) := by decide +kernel
theorem dX7_rings_33 : decode cX7_rings 33 = .ok (.ifCond .eq 8, 3) := by decide +kernel
theorem dX7_rings_36 : decode cX7_rings 36 = .ok (.iload 4, 2) := by decide +kernel
theorem dX7_rings_38 : decode cX7_rings 38 = .ok (.ifCond .ge 6, 3) := by decide +kernel
theorem dX7_rings_41 : decode cX7_rings 41 = .ok (.bipush (-2), 2) := by decide +kernel
theorem dX7_rings_43 : decode cX7_rings 43 = .ok (.ireturn, 1) := by decide +kernel
theorem dX7_rings_44 : decode cX7_rings 44 = .ok (.aload_n 0, 1) := by decide +kernel
theorem dX7_rings_45 : decode cX7_rings 45 = .ok (.getfield 38, 3) := by decide +kernel
theorem dX7_rings_48 : decode cX7_rings 48 = .ok (.istore 5, 2) := by decide +kernel
theorem dX7_rings_50 : decode cX7_rings 50 = .ok (.iconst 0, 1) := by decide +kernel
theorem dX7_rings_51 : decode cX7_rings 51 = .ok (.istore 6, 2) := by decide +kernel
theorem dX7_rings_53 : decode cX7_rings 53 = .ok (.iload 6, 2) := by decide +kernel
theorem dX7_rings_55 : decode cX7_rings 55 = .ok (.bipush 40, 2) := by decide +kernel
theorem dX7_rings_57 : decode cX7_rings 57 = .ok (.if_icmp .ge 23, 3) := by decide +kernel
theorem dX7_rings_60 : decode cX7_rings 60 = .ok (.aload_n 0, 1) := by decide +kernel
theorem dX7_rings_61 : decode cX7_rings 61 = .ok (.getfield 48, 3) := by decide +kernel
theorem dX7_rings_64 : decode cX7_rings 64 = .ok (.iload 6, 2) := by decide +kernel
theorem dX7_rings_66 : decode cX7_rings 66 = .ok (.aload_n 0, 1) := by decide +kernel
theorem dX7_rings_67 : decode cX7_rings 67 = .ok (.getfield 42, 3) := by decide +kernel
theorem dX7_rings_70 : decode cX7_rings 70 = .ok (.iload 6, 2) := by decide +kernel
theorem dX7_rings_72 : decode cX7_rings 72 = .ok (.baload, 1) := by decide +kernel
theorem dX7_rings_73 : decode cX7_rings 73 = .ok (.bastore, 1) := by decide +kernel
theorem dX7_rings_74 : decode cX7_rings 74 = .ok (.iinc 6 1, 3) := by decide +kernel
theorem dX7_rings_77 : decode cX7_rings 77 = .ok (.goto (-24), 3) := by decide +kernel
theorem dX7_rings_80 : decode cX7_rings 80 = .ok (.aload_n 0, 1) := by decide +kernel
theorem dX7_rings_81 : decode cX7_rings 81 = .ok (.iload_n 1, 1) := by decide +kernel
theorem dX7_rings_82 : decode cX7_rings 82 = .ok (.putfield 38, 3) := by decide +kernel
theorem dX7_rings_85 : decode cX7_rings 85 = .ok (.iconst 0, 1) := by decide +kernel
theorem dX7_rings_86 : decode cX7_rings 86 = .ok (.istore 6, 2) := by decide +kernel
theorem dX7_rings_88 : decode cX7_rings 88 = .ok (.iconst 0, 1) := by decide +kernel
theorem dX7_rings_89 : decode cX7_rings 89 = .ok (.istore 7, 2) := by decide +kernel
theorem dX7_rings_91 : decode cX7_rings 91 = .ok (.iload 7, 2) := by decide +kernel
theorem dX7_rings_93 : decode cX7_rings 93 = .ok (.iconst 1, 1) := by decide +kernel
theorem dX7_rings_94 : decode cX7_rings 94 = .ok (.iload_n 1, 1) := by decide +kernel
theorem dX7_rings_95 : decode cX7_rings 95 = .ok (.ishl, 1) := by decide +kernel
theorem dX7_rings_96 : decode cX7_rings 96 = .ok (.if_icmp .ge 101, 3) := by decide +kernel
theorem dX7_rings_99 : decode cX7_rings 99 = .ok (.iconst 0, 1) := by decide +kernel
theorem dX7_rings_100 : decode cX7_rings 100 = .ok (.istore 8, 2) := by decide +kernel
theorem dX7_rings_102 : decode cX7_rings 102 = .ok (.iconst 0, 1) := by decide +kernel
theorem dX7_rings_103 : decode cX7_rings 103 = .ok (.istore 9, 2) := by decide +kernel
theorem dX7_rings_105 : decode cX7_rings 105 = .ok (.iload 9, 2) := by decide +kernel
theorem dX7_rings_107 : decode cX7_rings 107 = .ok (.iload_n 1, 1) := by decide +kernel
theorem dX7_rings_108 : decode cX7_rings 108 = .ok (.if_icmp .ge 52, 3) := by decide +kernel
theorem dX7_rings_111 : decode cX7_rings 111 = .ok (.aload_n 0, 1) := by decide +kernel
theorem dX7_rings_112 : decode cX7_rings 112 = .ok (.getfield 42, 3) := by decide +kernel
theorem dX7_rings_115 : decode cX7_rings 115 = .ok (.iload 9, 2) := by decide +kernel
theorem dX7_rings_117 : decode cX7_rings 117 = .ok (.iload 7, 2) := by decide +kernel
theorem dX7_rings_119 : decode cX7_rings 119 = .ok (.iload 9, 2) := by decide +kernel
theorem dX7_rings_121 : decode cX7_rings 121 = .ok (.ishr, 1) := by decide +kernel
theorem dX7_rings_122 : decode cX7_rings 122 = .ok (.iconst 1, 1) := by decide +kernel
theorem dX7_rings_123 : decode cX7_rings 123 = .ok (.iand, 1) := by decide +kernel
theorem dX7_rings_124 : decode cX7_rings 124 = .ok (.iconst 1, 1) := by decide +kernel
theorem dX7_rings_125 : decode cX7_rings 125 = .ok (.if_icmp .ne 7, 3) := by decide +kernel
theorem dX7_rings_128 : decode cX7_rings 128 = .ok (.iconst 1, 1) := by decide +kernel
theorem dX7_rings_129 : decode cX7_rings 129 = .ok (.goto 4, 3) := by decide +kernel
theorem dX7_rings_132 : decode cX7_rings 132 = .ok (.iconst 0, 1) := by decide +kernel
theorem dX7_rings_133 : decode cX7_rings 133 = .ok (.bastore, 1) := by decide +kernel
theorem dX7_rings_134 : decode cX7_rings 134 = .ok (.iload 8, 2) := by decide +kernel
theorem dX7_rings_136 : decode cX7_rings 136 = .ok (.aload_n 0, 1) := by decide +kernel
theorem dX7_rings_137 : decode cX7_rings 137 = .ok (.getfield 42, 3) := by decide +kernel
theorem dX7_rings_140 : decode cX7_rings 140 = .ok (.iload 9, 2) := by decide +kernel
theorem dX7_rings_142 : decode cX7_rings 142 = .ok (.baload, 1) := by decide +kernel
theorem dX7_rings_143 : decode cX7_rings 143 = .ok (.ifCond .eq 7, 3) := by decide +kernel
theorem dX7_rings_146 : decode cX7_rings 146 = .ok (.iconst 1, 1) := by decide +kernel
theorem dX7_rings_147 : decode cX7_rings 147 = .ok (.goto 4, 3) := by decide +kernel
theorem dX7_rings_150 : decode cX7_rings 150 = .ok (.iconst 0, 1) := by decide +kernel
theorem dX7_rings_151 : decode cX7_rings 151 = .ok (.iadd, 1) := by decide +kernel
theorem dX7_rings_152 : decode cX7_rings 152 = .ok (.istore 8, 2) := by decide +kernel
theorem dX7_rings_154 : decode cX7_rings 154 = .ok (.iinc 9 1, 3) := by decide +kernel
theorem dX7_rings_157 : decode cX7_rings 157 = .ok (.goto (-52), 3) := by decide +kernel
theorem dX7_rings_160 : decode cX7_rings 160 = .ok (.iload 8, 2) := by decide +kernel
theorem dX7_rings_162 : decode cX7_rings 162 = .ok (.iload_n 2, 1) := by decide +kernel
theorem dX7_rings_163 : decode cX7_rings 163 = .ok (.if_icmp .ne 28, 3) := by decide +kernel
theorem dX7_rings_166 : decode cX7_rings 166 = .ok (.iload 6, 2) := by decide +kernel
theorem dX7_rings_168 : decode cX7_rings 168 = .ok (.iload 4, 2) := by decide +kernel
theorem dX7_rings_170 : decode cX7_rings 170 = .ok (.ifCond .eq 13, 3) := by decide +kernel
theorem dX7_rings_173 : decode cX7_rings 173 = .ok (.aload_n 0, 1) := by decide +kernel
theorem dX7_rings_174 : decode cX7_rings 174 = .ok (.iload_n 3, 1) := by decide +kernel
theorem dX7_rings_175 : decode cX7_rings 175 = .ok (.invokevirtual 118, 3) := by decide +kernel
theorem dX7_rings_178 : decode cX7_rings 178 = .ok (.iload 4, 2) := by decide +kernel
theorem dX7_rings_180 : decode cX7_rings 180 = .ok (.if_icmp .ne 7, 3) := by decide +kernel
theorem dX7_rings_183 : decode cX7_rings 183 = .ok (.iconst 1, 1) := by decide +kernel
theorem dX7_rings_184 : decode cX7_rings 184 = .ok (.goto 4, 3) := by decide +kernel
theorem dX7_rings_187 : decode cX7_rings 187 = .ok (.iconst 0, 1) := by decide +kernel
theorem dX7_rings_188 : decode cX7_rings 188 = .ok (.iadd, 1) := by decide +kernel
theorem dX7_rings_189 : decode cX7_rings 189 = .ok (.istore 6, 2) := by decide +kernel
theorem dX7_rings_191 : decode cX7_rings 191 = .ok (.iinc 7 1, 3) := by decide +kernel
theorem dX7_rings_194 : decode cX7_rings 194 = .ok (.goto (-103), 3) := by decide +kernel
theorem dX7_rings_197 : decode cX7_rings 197 = .ok (.aload_n 0, 1) := by decide +kernel
theorem dX7_rings_198 : decode cX7_rings 198 = .ok (.iload 5, 2) := by decide +kernel
theorem dX7_rings_200 : decode cX7_rings 200 = .ok (.putfield 38, 3) := by decide +kernel
theorem dX7_rings_203 : decode cX7_rings 203 = .ok (.iconst 0, 1) := by decide +kernel
theorem dX7_rings_204 : decode cX7_rings 204 = .ok (.istore 7, 2) := by decide +kernel
theorem dX7_rings_206 : decode cX7_rings 206 = .ok (.iload 7, 2) := by decide +kernel
theorem dX7_rings_208 : decode cX7_rings 208 = .ok (.bipush 40, 2) := by decide +kernel
theorem dX7_rings_210 : decode cX7_rings 210 = .ok (.if_icmp .ge 23, 3) := by decide +kernel
theorem dX7_rings_213 : decode cX7_rings 213 = .ok (.aload_n 0, 1) := by decide +kernel
theorem dX7_rings_214 : decode cX7_rings 214 = .ok (.getfield 42, 3) := by decide +kernel
theorem dX7_rings_217 : decode cX7_rings 217 = .ok (.iload 7, 2) := by decide +kernel
theorem dX7_rings_219 : decode cX7_rings 219 = .ok (.aload_n 0, 1) := by decide +kernel
theorem dX7_rings_220 : decode cX7_rings 220 = .ok (.getfield 48, 3) := by decide +kernel
theorem dX7_rings_223 : decode cX7_rings 223 = .ok (.iload 7, 2) := by decide +kernel
theorem dX7_rings_225 : decode cX7_rings 225 = .ok (.baload, 1) := by decide +kernel
theorem dX7_rings_226 : decode cX7_rings 226 = .ok (.bastore, 1) := by decide +kernel
theorem dX7_rings_227 : decode cX7_rings 227 = .ok (.iinc 7 1, 3) := by decide +kernel
theorem dX7_rings_230 : decode cX7_rings 230 = .ok (.goto (-24), 3) := by decide +kernel
theorem dX7_rings_233 : decode cX7_rings 233 = .ok (.iload 6, 2) := by decide +kernel
theorem dX7_rings_235 : decode cX7_rings 235 = .ok (.ireturn, 1) := by decide +kernel
theorem dX7_meets_0 : decode cX7_meets 0 = .ok (.aload_n 0, 1) := by decide +kernel
theorem dX7_meets_1 : decode cX7_meets 1 = .ok (.iload_n 1, 1) := by decide +kernel
theorem dX7_meets_2 : decode cX7_meets 2 = .ok (.putfield 123, 3) := by decide +kernel
theorem dX7_meets_5 : decode cX7_meets 5 = .ok (.bipush (-10), 2) := by decide +kernel
theorem dX7_meets_7 : decode cX7_meets 7 = .ok (.iload_n 1, 1) := by decide +kernel
theorem dX7_meets_8 : decode cX7_meets 8 = .ok (.isub, 1) := by decide +kernel
theorem dX7_meets_9 : decode cX7_meets 9 = .ok (.ireturn, 1) := by decide +kernel
set_option maxRecDepth 20000 in
theorem ggX7_isSheet_X7_in : GoodIn wsX7_isSheet wsX7_in := goodIn_r _ [4] (by decide +kernel) (by decide +kernel)
set_option maxRecDepth 20000 in
theorem gX7_isSheet_X7_in : GoodIn wsX7_isSheet (va_wsS RX7 66 yX7_in wsX7_in) := goodIn_app (goodIn_of _ (by decide +kernel)) ggX7_isSheet_X7_in
theorem dX7_isSheet_0 : decode cX7_isSheet 0 = .ok (.iload_n 0, 1) := by decide +kernel
theorem dX7_isSheet_1 : decode cX7_isSheet 1 = .ok (.iconst 0, 1) := by decide +kernel
theorem dX7_isSheet_2 : decode cX7_isSheet 2 = .ok (.iconst 3, 1) := by decide +kernel
theorem dX7_isSheet_3 : decode cX7_isSheet 3 = .ok (.invokestatic 66, 3) := by decide +kernel
theorem dX7_isSheet_6 : decode cX7_isSheet 6 = .ok (.ireturn, 1) := by decide +kernel
set_option maxRecDepth 20000 in
theorem ggX7_sheet_X7_isSheet : GoodIn wsX7_sheet wsX7_isSheet := goodIn_r _ [8, 9, 10, 7, 11] (by decide +kernel) (by decide +kernel)
set_option maxRecDepth 20000 in
theorem gX7_sheet_X7_isSheet : GoodIn wsX7_sheet (va_wsS RX7 126 yX7_isSheet wsX7_isSheet) := goodIn_app (goodIn_of _ (by decide +kernel)) ggX7_sheet_X7_isSheet
set_option maxRecDepth 20000 in
theorem ggX7_sheet_X7_in : GoodIn wsX7_sheet wsX7_in := goodIn_r _ [11] (by decide +kernel) (by decide +kernel)
set_option maxRecDepth 20000 in
theorem gX7_sheet_X7_in : GoodIn wsX7_sheet (va_wsS RX7 66 yX7_in wsX7_in) := goodIn_app (goodIn_of _ (by decide +kernel)) ggX7_sheet_X7_in
set_option maxRecDepth 20000 in
theorem ggX7_sheet_X7_meets : GoodIn wsX7_sheet wsX7_meets := goodIn_r _ [15, 16, 17, 18, 19, 20, 21, 22, 23, 24, 25, 26, 27, 28, 29, 30, 31, 32, 33, 34, 35, 36, 37, 38] (by decide +kernel) (by decide +kernel)
set_option maxRecDepth 20000 in
theorem gX7_sheet_X7_meets : GoodIn wsX7_sheet (wsV RX7 130 RX7 yX7_meets wsX7_meets) := goodIn_app (goodIn_of _ (by decide +kernel)) ggX7_sheet_X7_meets
theorem dX7_sheet_0 : decode cX7_sheet 0 = .ok (.iload_n 1, 1) := by decide +kernel
theorem dX7_sheet_1 : decode cX7_sheet 1 = .ok (.invokestatic 126, 3) := by decide +kernel
theorem dX7_sheet_4 : decode cX7_sheet 4 = .ok (.ifCond .eq 18, 3) := by decide +kernel
theorem dX7_sheet_7 : decode cX7_sheet 7 = .ok (.iload_n 2, 1) := by decide +kernel
theorem dX7_sheet_8 : decode cX7_sheet 8 = .ok (.iconst 0, 1) := by decide +kernel
theorem dX7_sheet_9 : decode cX7_sheet 9 = .ok (.iconst 2, 1) := by decide +kernel
theorem dX7_sheet_10 : decode cX7_sheet 10 = .ok (.invokestatic 66, 3) := by decide +kernel
theorem dX7_sheet_13 : decode cX7_sheet 13 = .ok (.ifCond .eq 9, 3) := by decide +kernel
theorem dX7_sheet_16 : decode cX7_sheet 16 = .ok (.iload_n 3, 1) := by decide +kernel
theorem dX7_sheet_17 : decode cX7_sheet 17 = .ok (.bipush 100, 2) := by decide +kernel
theorem dX7_sheet_19 : decode cX7_sheet 19 = .ok (.if_icmp .le 6, 3) := by decide +kernel
theorem dX7_sheet_22 : decode cX7_sheet 22 = .ok (.bipush (-2), 2) := by decide +kernel
theorem dX7_sheet_24 : decode cX7_sheet 24 = .ok (.ireturn, 1) := by decide +kernel
theorem dX7_sheet_25 : decode cX7_sheet 25 = .ok (.iload_n 3, 1) := by decide +kernel
theorem dX7_sheet_26 : decode cX7_sheet 26 = .ok (.ifCond .ge 9, 3) := by decide +kernel
theorem dX7_sheet_29 : decode cX7_sheet 29 = .ok (.aload_n 0, 1) := by decide +kernel
theorem dX7_sheet_30 : decode cX7_sheet 30 = .ok (.iconst 5, 1) := by decide +kernel
theorem dX7_sheet_31 : decode cX7_sheet 31 = .ok (.invokevirtual 130, 3) := by decide +kernel
theorem dX7_sheet_34 : decode cX7_sheet 34 = .ok (.ireturn, 1) := by decide +kernel
theorem dX7_sheet_35 : decode cX7_sheet 35 = .ok (.aload_n 0, 1) := by decide +kernel
theorem dX7_sheet_36 : decode cX7_sheet 36 = .ok (.getfield 51, 3) := by decide +kernel
theorem dX7_sheet_39 : decode cX7_sheet 39 = .ok (.iload_n 1, 1) := by decide +kernel
theorem dX7_sheet_40 : decode cX7_sheet 40 = .ok (.iconst 1, 1) := by decide +kernel
theorem dX7_sheet_41 : decode cX7_sheet 41 = .ok (.bastore, 1) := by decide +kernel
theorem dX7_sheet_42 : decode cX7_sheet 42 = .ok (.aload_n 0, 1) := by decide +kernel
theorem dX7_sheet_43 : decode cX7_sheet 43 = .ok (.getfield 54, 3) := by decide +kernel
theorem dX7_sheet_46 : decode cX7_sheet 46 = .ok (.iload_n 1, 1) := by decide +kernel
theorem dX7_sheet_47 : decode cX7_sheet 47 = .ok (.iload_n 2, 1) := by decide +kernel
theorem dX7_sheet_48 : decode cX7_sheet 48 = .ok (.iastore, 1) := by decide +kernel
theorem dX7_sheet_49 : decode cX7_sheet 49 = .ok (.aload_n 0, 1) := by decide +kernel
theorem dX7_sheet_50 : decode cX7_sheet 50 = .ok (.getfield 57, 3) := by decide +kernel
theorem dX7_sheet_53 : decode cX7_sheet 53 = .ok (.iload_n 1, 1) := by decide +kernel
theorem dX7_sheet_54 : decode cX7_sheet 54 = .ok (.iload_n 3, 1) := by decide +kernel
theorem dX7_sheet_55 : decode cX7_sheet 55 = .ok (.iastore, 1) := by decide +kernel
theorem dX7_sheet_56 : decode cX7_sheet 56 = .ok (.iconst 0, 1) := by decide +kernel
theorem dX7_sheet_57 : decode cX7_sheet 57 = .ok (.istore 4, 2) := by decide +kernel
theorem dX7_sheet_59 : decode cX7_sheet 59 = .ok (.iload 4, 2) := by decide +kernel
theorem dX7_sheet_61 : decode cX7_sheet 61 = .ok (.bipush 100, 2) := by decide +kernel
theorem dX7_sheet_63 : decode cX7_sheet 63 = .ok (.if_icmp .ge 22, 3) := by decide +kernel
theorem dX7_sheet_66 : decode cX7_sheet 66 = .ok (.aload_n 0, 1) := by decide +kernel
theorem dX7_sheet_67 : decode cX7_sheet 67 = .ok (.getfield 60, 3) := by decide +kernel
theorem dX7_sheet_70 : decode cX7_sheet 70 = .ok (.bipush 100, 2) := by decide +kernel
theorem dX7_sheet_72 : decode cX7_sheet 72 = .ok (.iload_n 1, 1) := by decide +kernel
theorem dX7_sheet_73 : decode cX7_sheet 73 = .ok (.imul, 1) := by decide +kernel
theorem dX7_sheet_74 : decode cX7_sheet 74 = .ok (.iload 4, 2) := by decide +kernel
theorem dX7_sheet_76 : decode cX7_sheet 76 = .ok (.iadd, 1) := by decide +kernel
theorem dX7_sheet_77 : decode cX7_sheet 77 = .ok (.iconst 0, 1) := by decide +kernel
theorem dX7_sheet_78 : decode cX7_sheet 78 = .ok (.iastore, 1) := by decide +kernel
theorem dX7_sheet_79 : decode cX7_sheet 79 = .ok (.iinc 4 1, 3) := by decide +kernel
theorem dX7_sheet_82 : decode cX7_sheet 82 = .ok (.goto (-23), 3) := by decide +kernel
theorem dX7_sheet_85 : decode cX7_sheet 85 = .ok (.iload_n 3, 1) := by decide +kernel
theorem dX7_sheet_86 : decode cX7_sheet 86 = .ok (.ireturn, 1) := by decide +kernel
set_option maxRecDepth 20000 in
theorem ggX7_lose_X7_isSheet : GoodIn wsX7_lose wsX7_isSheet := goodIn_r _ [6, 7, 8, 5, 9] (by decide +kernel) (by decide +kernel)
set_option maxRecDepth 20000 in
theorem gX7_lose_X7_isSheet : GoodIn wsX7_lose (va_wsS RX7 126 yX7_isSheet wsX7_isSheet) := goodIn_app (goodIn_of _ (by decide +kernel)) ggX7_lose_X7_isSheet
set_option maxRecDepth 20000 in
theorem ggX7_lose_X7_meets : GoodIn wsX7_lose wsX7_meets := goodIn_r _ [13, 14, 15, 16, 17, 18, 19, 20, 21, 22, 23, 24, 25, 26, 27, 28, 29, 30, 31, 32, 33, 34, 35, 36] (by decide +kernel) (by decide +kernel)
set_option maxRecDepth 20000 in
theorem gX7_lose_X7_meets : GoodIn wsX7_lose (wsV RX7 130 RX7 yX7_meets wsX7_meets) := goodIn_app (goodIn_of _ (by decide +kernel)) ggX7_lose_X7_meets
theorem dX7_lose_0 : decode cX7_lose 0 = .ok (.iload_n 1, 1) := by decide +kernel
theorem dX7_lose_1 : decode cX7_lose 1 = .ok (.invokestatic 126, 3) := by decide +kernel
theorem dX7_lose_4 : decode cX7_lose 4 = .ok (.ifCond .ne 6, 3) := by decide +kernel
theorem dX7_lose_7 : decode cX7_lose 7 = .ok (.bipush (-2), 2) := by decide +kernel
theorem dX7_lose_9 : decode cX7_lose 9 = .ok (.ireturn, 1) := by decide +kernel
theorem dX7_lose_10 : decode cX7_lose 10 = .ok (.aload_n 0, 1) := by decide +kernel
theorem dX7_lose_11 : decode cX7_lose 11 = .ok (.getfield 51, 3) := by decide +kernel
theorem dX7_lose_14 : decode cX7_lose 14 = .ok (.iload_n 1, 1) := by decide +kernel
theorem dX7_lose_15 : decode cX7_lose 15 = .ok (.baload, 1) := by decide +kernel
theorem dX7_lose_16 : decode cX7_lose 16 = .ok (.ifCond .ne 9, 3) := by decide +kernel
theorem dX7_lose_19 : decode cX7_lose 19 = .ok (.aload_n 0, 1) := by decide +kernel
theorem dX7_lose_20 : decode cX7_lose 20 = .ok (.iconst 1, 1) := by decide +kernel
theorem dX7_lose_21 : decode cX7_lose 21 = .ok (.invokevirtual 130, 3) := by decide +kernel
theorem dX7_lose_24 : decode cX7_lose 24 = .ok (.ireturn, 1) := by decide +kernel
theorem dX7_lose_25 : decode cX7_lose 25 = .ok (.aload_n 0, 1) := by decide +kernel
theorem dX7_lose_26 : decode cX7_lose 26 = .ok (.getfield 51, 3) := by decide +kernel
theorem dX7_lose_29 : decode cX7_lose 29 = .ok (.iload_n 1, 1) := by decide +kernel
theorem dX7_lose_30 : decode cX7_lose 30 = .ok (.iconst 0, 1) := by decide +kernel
theorem dX7_lose_31 : decode cX7_lose 31 = .ok (.bastore, 1) := by decide +kernel
theorem dX7_lose_32 : decode cX7_lose 32 = .ok (.aload_n 0, 1) := by decide +kernel
theorem dX7_lose_33 : decode cX7_lose 33 = .ok (.getfield 57, 3) := by decide +kernel
theorem dX7_lose_36 : decode cX7_lose 36 = .ok (.iload_n 1, 1) := by decide +kernel
theorem dX7_lose_37 : decode cX7_lose 37 = .ok (.iaload, 1) := by decide +kernel
theorem dX7_lose_38 : decode cX7_lose 38 = .ok (.ireturn, 1) := by decide +kernel
set_option maxRecDepth 20000 in
theorem ggX7_lacks_X7_in : GoodIn wsX7_lacks wsX7_in := goodIn_r _ [7] (by decide +kernel) (by decide +kernel)
set_option maxRecDepth 20000 in
theorem gX7_lacks_X7_in : GoodIn wsX7_lacks (va_wsS RX7 66 yX7_in wsX7_in) := goodIn_app (goodIn_of _ (by decide +kernel)) ggX7_lacks_X7_in
theorem dX7_lacks_0 : decode cX7_lacks 0 = .ok (.aload_n 0, 1) := by decide +kernel
theorem dX7_lacks_1 : decode cX7_lacks 1 = .ok (.getfield 51, 3) := by decide +kernel
theorem dX7_lacks_4 : decode cX7_lacks 4 = .ok (.iload_n 1, 1) := by decide +kernel
theorem dX7_lacks_5 : decode cX7_lacks 5 = .ok (.baload, 1) := by decide +kernel
theorem dX7_lacks_6 : decode cX7_lacks 6 = .ok (.ifCond .ne 7, 3) := by decide +kernel
theorem dX7_lacks_9 : decode cX7_lacks 9 = .ok (.iconst 1, 1) := by decide +kernel
theorem dX7_lacks_10 : decode cX7_lacks 10 = .ok (.goto 38, 3) := by decide +kernel
theorem dX7_lacks_13 : decode cX7_lacks 13 = .ok (.aload_n 0, 1) := by decide +kernel
theorem dX7_lacks_14 : decode cX7_lacks 14 = .ok (.getfield 54, 3) := by decide +kernel
theorem dX7_lacks_17 : decode cX7_lacks 17 = .ok (.iload_n 1, 1) := by decide +kernel
theorem dX7_lacks_18 : decode cX7_lacks 18 = .ok (.iaload, 1) := by decide +kernel
theorem dX7_lacks_19 : decode cX7_lacks 19 = .ok (.iload_n 2, 1) := by decide +kernel
theorem dX7_lacks_20 : decode cX7_lacks 20 = .ok (.if_icmp .eq 7, 3) := by decide +kernel
theorem dX7_lacks_23 : decode cX7_lacks 23 = .ok (.iconst 3, 1) := by decide +kernel
theorem dX7_lacks_24 : decode cX7_lacks 24 = .ok (.goto 24, 3) := by decide +kernel
theorem dX7_lacks_27 : decode cX7_lacks 27 = .ok (.iload_n 3, 1) := by decide +kernel
theorem dX7_lacks_28 : decode cX7_lacks 28 = .ok (.iconst 0, 1) := by decide +kernel
theorem dX7_lacks_29 : decode cX7_lacks 29 = .ok (.aload_n 0, 1) := by decide +kernel
theorem dX7_lacks_30 : decode cX7_lacks 30 = .ok (.getfield 57, 3) := by decide +kernel
theorem dX7_lacks_33 : decode cX7_lacks 33 = .ok (.iload_n 1, 1) := by decide +kernel
theorem dX7_lacks_34 : decode cX7_lacks 34 = .ok (.iaload, 1) := by decide +kernel
theorem dX7_lacks_35 : decode cX7_lacks 35 = .ok (.iconst 1, 1) := by decide +kernel
theorem dX7_lacks_36 : decode cX7_lacks 36 = .ok (.isub, 1) := by decide +kernel
theorem dX7_lacks_37 : decode cX7_lacks 37 = .ok (.invokestatic 66, 3) := by decide +kernel
theorem dX7_lacks_40 : decode cX7_lacks 40 = .ok (.ifCond .eq 7, 3) := by decide +kernel
theorem dX7_lacks_43 : decode cX7_lacks 43 = .ok (.iconst 0, 1) := by decide +kernel
theorem dX7_lacks_44 : decode cX7_lacks 44 = .ok (.goto 4, 3) := by decide +kernel
theorem dX7_lacks_47 : decode cX7_lacks 47 = .ok (.iconst 2, 1) := by decide +kernel
theorem dX7_lacks_48 : decode cX7_lacks 48 = .ok (.ireturn, 1) := by decide +kernel
set_option maxRecDepth 20000 in
theorem ggX7_put_X7_isSheet : GoodIn wsX7_put wsX7_isSheet := goodIn_r _ [5, 6, 7, 4, 8] (by decide +kernel) (by decide +kernel)
set_option maxRecDepth 20000 in
theorem gX7_put_X7_isSheet : GoodIn wsX7_put (va_wsS RX7 126 yX7_isSheet wsX7_isSheet) := goodIn_app (goodIn_of _ (by decide +kernel)) ggX7_put_X7_isSheet
set_option maxRecDepth 20000 in
theorem ggX7_put_X7_in : GoodIn wsX7_put wsX7_in := goodIn_r _ [8] (by decide +kernel) (by decide +kernel)
set_option maxRecDepth 20000 in
theorem gX7_put_X7_in : GoodIn wsX7_put (va_wsS RX7 66 yX7_in wsX7_in) := goodIn_app (goodIn_of _ (by decide +kernel)) ggX7_put_X7_in
set_option maxRecDepth 20000 in
theorem ggX7_put_X7_lacks : GoodIn wsX7_put wsX7_lacks := goodIn_r _ [12, 13, 14, 15, 6, 7, 4, 8, 21, 22, 23, 24, 25, 26, 27, 28, 29, 30, 31, 32, 33, 34, 35, 36, 37, 38, 39, 40, 41, 42] (by decide +kernel) (by decide +kernel)
set_option maxRecDepth 20000 in
theorem gX7_put_X7_lacks : GoodIn wsX7_put (wsV RX7 133 RX7 yX7_lacks wsX7_lacks) := goodIn_app (goodIn_of _ (by decide +kernel)) ggX7_put_X7_lacks
set_option maxRecDepth 20000 in
theorem ggX7_put_X7_meets : GoodIn wsX7_put wsX7_meets := goodIn_r _ [19, 20, 21, 22, 23, 24, 25, 26, 27, 28, 29, 30, 31, 32, 33, 34, 35, 36, 37, 38, 39, 40, 41, 42] (by decide +kernel) (by decide +kernel)
set_option maxRecDepth 20000 in
theorem gX7_put_X7_meets : GoodIn wsX7_put (wsV RX7 130 RX7 yX7_meets wsX7_meets) := goodIn_app (goodIn_of _ (by decide +kernel)) ggX7_put_X7_meets
theorem dX7_put_0 : decode cX7_put 0 = .ok (.iload_n 1, 1) := by decide +kernel
theorem dX7_put_1 : decode cX7_put 1 = .ok (.invokestatic 126, 3) := by decide +kernel
theorem dX7_put_4 : decode cX7_put 4 = .ok (.ifCond .eq 12, 3) := by decide +kernel
theorem dX7_put_7 : decode cX7_put 7 = .ok (.iload_n 2, 1) := by decide +kernel
theorem dX7_put_8 : decode cX7_put 8 = .ok (.iconst 0, 1) := by decide +kernel
theorem dX7_put_9 : decode cX7_put 9 = .ok (.iconst 2, 1) := by decide +kernel
theorem dX7_put_10 : decode cX7_put 10 = .ok (.invokestatic 66, 3) := by decide +kernel
theorem dX7_put_13 : decode cX7_put 13 = .ok (.ifCond .ne 6, 3) := by decide +kernel
theorem dX7_put_16 : decode cX7_put 16 = .ok (.bipush (-2), 2) := by decide +kernel
theorem dX7_put_18 : decode cX7_put 18 = .ok (.ireturn, 1) := by decide +kernel
theorem dX7_put_19 : decode cX7_put 19 = .ok (.aload_n 0, 1) := by decide +kernel
theorem dX7_put_20 : decode cX7_put 20 = .ok (.iload_n 1, 1) := by decide +kernel
theorem dX7_put_21 : decode cX7_put 21 = .ok (.iload_n 2, 1) := by decide +kernel
theorem dX7_put_22 : decode cX7_put 22 = .ok (.iload_n 3, 1) := by decide +kernel
theorem dX7_put_23 : decode cX7_put 23 = .ok (.invokevirtual 133, 3) := by decide +kernel
theorem dX7_put_26 : decode cX7_put 26 = .ok (.istore 5, 2) := by decide +kernel
theorem dX7_put_28 : decode cX7_put 28 = .ok (.iload 5, 2) := by decide +kernel
theorem dX7_put_30 : decode cX7_put 30 = .ok (.ifCond .le 10, 3) := by decide +kernel
theorem dX7_put_33 : decode cX7_put 33 = .ok (.aload_n 0, 1) := by decide +kernel
theorem dX7_put_34 : decode cX7_put 34 = .ok (.iload 5, 2) := by decide +kernel
theorem dX7_put_36 : decode cX7_put 36 = .ok (.invokevirtual 130, 3) := by decide +kernel
theorem dX7_put_39 : decode cX7_put 39 = .ok (.ireturn, 1) := by decide +kernel
theorem dX7_put_40 : decode cX7_put 40 = .ok (.aload_n 0, 1) := by decide +kernel
theorem dX7_put_41 : decode cX7_put 41 = .ok (.getfield 60, 3) := by decide +kernel
theorem dX7_put_44 : decode cX7_put 44 = .ok (.bipush 100, 2) := by decide +kernel
theorem dX7_put_46 : decode cX7_put 46 = .ok (.iload_n 1, 1) := by decide +kernel
theorem dX7_put_47 : decode cX7_put 47 = .ok (.imul, 1) := by decide +kernel
theorem dX7_put_48 : decode cX7_put 48 = .ok (.iload_n 3, 1) := by decide +kernel
theorem dX7_put_49 : decode cX7_put 49 = .ok (.iadd, 1) := by decide +kernel
theorem dX7_put_50 : decode cX7_put 50 = .ok (.iload_n 2, 1) := by decide +kernel
theorem dX7_put_51 : decode cX7_put 51 = .ok (.ifCond .ne 9, 3) := by decide +kernel
theorem dX7_put_54 : decode cX7_put 54 = .ok (.iload 4, 2) := by decide +kernel
theorem dX7_put_56 : decode cX7_put 56 = .ok (.i2b, 1) := by decide +kernel
theorem dX7_put_57 : decode cX7_put 57 = .ok (.goto 16, 3) := by decide +kernel
theorem dX7_put_60 : decode cX7_put 60 = .ok (.iload_n 2, 1) := by decide +kernel
theorem dX7_put_61 : decode cX7_put 61 = .ok (.iconst 1, 1) := by decide +kernel
theorem dX7_put_62 : decode cX7_put 62 = .ok (.if_icmp .ne 9, 3) := by decide +kernel
theorem dX7_put_65 : decode cX7_put 65 = .ok (.iload 4, 2) := by decide +kernel
theorem dX7_put_67 : decode cX7_put 67 = .ok (.i2s, 1) := by decide +kernel
theorem dX7_put_68 : decode cX7_put 68 = .ok (.goto 5, 3) := by decide +kernel
theorem dX7_put_71 : decode cX7_put 71 = .ok (.iload 4, 2) := by decide +kernel
theorem dX7_put_73 : decode cX7_put 73 = .ok (.iastore, 1) := by decide +kernel
theorem dX7_put_74 : decode cX7_put 74 = .ok (.iconst 1, 1) := by decide +kernel
theorem dX7_put_75 : decode cX7_put 75 = .ok (.ireturn, 1) := by decide +kernel
set_option maxRecDepth 20000 in
theorem ggX7_get_X7_isSheet : GoodIn wsX7_get wsX7_isSheet := goodIn_r _ [7, 8, 9, 6, 10] (by decide +kernel) (by decide +kernel)
set_option maxRecDepth 20000 in
theorem gX7_get_X7_isSheet : GoodIn wsX7_get (va_wsS RX7 126 yX7_isSheet wsX7_isSheet) := goodIn_app (goodIn_of _ (by decide +kernel)) ggX7_get_X7_isSheet
set_option maxRecDepth 20000 in
theorem ggX7_get_X7_in : GoodIn wsX7_get wsX7_in := goodIn_r _ [10] (by decide +kernel) (by decide +kernel)
set_option maxRecDepth 20000 in
theorem gX7_get_X7_in : GoodIn wsX7_get (va_wsS RX7 66 yX7_in wsX7_in) := goodIn_app (goodIn_of _ (by decide +kernel)) ggX7_get_X7_in
set_option maxRecDepth 20000 in
theorem ggX7_get_X7_lacks : GoodIn wsX7_get wsX7_lacks := goodIn_r _ [14, 15, 16, 17, 8, 9, 6, 10, 18, 19, 20, 21, 22, 23, 24, 25, 26, 27, 28, 29, 30, 31, 32, 33, 34, 35, 36, 37, 38, 39] (by decide +kernel) (by decide +kernel)
set_option maxRecDepth 20000 in
theorem gX7_get_X7_lacks : GoodIn wsX7_get (wsV RX7 133 RX7 yX7_lacks wsX7_lacks) := goodIn_app (goodIn_of _ (by decide +kernel)) ggX7_get_X7_lacks
theorem dX7_get_0 : decode cX7_get 0 = .ok (.iload_n 1, 1) := by decide +kernel
theorem dX7_get_1 : decode cX7_get 1 = .ok (.invokestatic 126, 3) := by decide +kernel
theorem dX7_get_4 : decode cX7_get 4 = .ok (.ifCond .eq 12, 3) := by decide +kernel
theorem dX7_get_7 : decode cX7_get 7 = .ok (.iload_n 2, 1) := by decide +kernel
theorem dX7_get_8 : decode cX7_get 8 = .ok (.iconst 0, 1) := by decide +kernel
theorem dX7_get_9 : decode cX7_get 9 = .ok (.iconst 2, 1) := by decide +kernel
theorem dX7_get_10 : decode cX7_get 10 = .ok (.invokestatic 66, 3) := by decide +kernel
theorem dX7_get_13 : decode cX7_get 13 = .ok (.ifCond .ne 6, 3) := by decide +kernel
theorem dX7_get_16 : decode cX7_get 16 = .ok (.ldc 137, 2) := by decide +kernel
theorem dX7_get_18 : decode cX7_get 18 = .ok (.ireturn, 1) := by decide +kernel
theorem dX7_get_19 : decode cX7_get 19 = .ok (.aload_n 0, 1) := by decide +kernel
theorem dX7_get_20 : decode cX7_get 20 = .ok (.iload_n 1, 1) := by decide +kernel
theorem dX7_get_21 : decode cX7_get 21 = .ok (.iload_n 2, 1) := by decide +kernel
theorem dX7_get_22 : decode cX7_get 22 = .ok (.iload_n 3, 1) := by decide +kernel
theorem dX7_get_23 : decode cX7_get 23 = .ok (.invokevirtual 133, 3) := by decide +kernel
theorem dX7_get_26 : decode cX7_get 26 = .ok (.istore 4, 2) := by decide +kernel
theorem dX7_get_28 : decode cX7_get 28 = .ok (.iload 4, 2) := by decide +kernel
theorem dX7_get_30 : decode cX7_get 30 = .ok (.ifCond .le 12, 3) := by decide +kernel
theorem dX7_get_33 : decode cX7_get 33 = .ok (.aload_n 0, 1) := by decide +kernel
theorem dX7_get_34 : decode cX7_get 34 = .ok (.iload 4, 2) := by decide +kernel
theorem dX7_get_36 : decode cX7_get 36 = .ok (.putfield 123, 3) := by decide +kernel
theorem dX7_get_39 : decode cX7_get 39 = .ok (.ldc 137, 2) := by decide +kernel
theorem dX7_get_41 : decode cX7_get 41 = .ok (.ireturn, 1) := by decide +kernel
theorem dX7_get_42 : decode cX7_get 42 = .ok (.aload_n 0, 1) := by decide +kernel
theorem dX7_get_43 : decode cX7_get 43 = .ok (.getfield 60, 3) := by decide +kernel
theorem dX7_get_46 : decode cX7_get 46 = .ok (.bipush 100, 2) := by decide +kernel
theorem dX7_get_48 : decode cX7_get 48 = .ok (.iload_n 1, 1) := by decide +kernel
theorem dX7_get_49 : decode cX7_get 49 = .ok (.imul, 1) := by decide +kernel
theorem dX7_get_50 : decode cX7_get 50 = .ok (.iload_n 3, 1) := by decide +kernel
theorem dX7_get_51 : decode cX7_get 51 = .ok (.iadd, 1) := by decide +kernel
theorem dX7_get_52 : decode cX7_get 52 = .ok (.iaload, 1) := by decide +kernel
theorem dX7_get_53 : decode cX7_get 53 = .ok (.ireturn, 1) := by decide +kernel
set_option maxRecDepth 20000 in
theorem ggX7_copy_X7_isSheet : GoodIn wsX7_copy wsX7_isSheet := goodIn_r _ [9, 10, 11, 8, 12] (by decide +kernel) (by decide +kernel)
set_option maxRecDepth 20000 in
theorem gX7_copy_X7_isSheet : GoodIn wsX7_copy (va_wsS RX7 126 yX7_isSheet wsX7_isSheet) := goodIn_app (goodIn_of _ (by decide +kernel)) ggX7_copy_X7_isSheet
set_option maxRecDepth 20000 in
theorem ggX7_copy_X7_meets : GoodIn wsX7_copy wsX7_meets := goodIn_r _ [16, 17, 18, 19, 20, 21, 22, 23, 24, 25, 26, 27, 28, 29, 30, 31, 32, 33, 34, 35, 36, 37, 38, 39] (by decide +kernel) (by decide +kernel)
set_option maxRecDepth 20000 in
theorem gX7_copy_X7_meets : GoodIn wsX7_copy (wsV RX7 130 RX7 yX7_meets wsX7_meets) := goodIn_app (goodIn_of _ (by decide +kernel)) ggX7_copy_X7_meets
theorem dX7_copy_0 : decode cX7_copy 0 = .ok (.iload_n 1, 1) := by decide +kernel
theorem dX7_copy_1 : decode cX7_copy 1 = .ok (.invokestatic 126, 3) := by decide +kernel
theorem dX7_copy_4 : decode cX7_copy 4 = .ok (.ifCond .eq 10, 3) := by decide +kernel
theorem dX7_copy_7 : decode cX7_copy 7 = .ok (.iload_n 3, 1) := by decide +kernel
theorem dX7_copy_8 : decode cX7_copy 8 = .ok (.invokestatic 126, 3) := by decide +kernel
theorem dX7_copy_11 : decode cX7_copy 11 = .ok (.ifCond .ne 6, 3) := by decide +kernel
theorem dX7_copy_14 : decode cX7_copy 14 = .ok (.bipush (-2), 2) := by decide +kernel
theorem dX7_copy_16 : decode cX7_copy 16 = .ok (.ireturn, 1) := by decide +kernel
theorem dX7_copy_17 : decode cX7_copy 17 = .ok (.aload_n 0, 1) := by decide +kernel
theorem dX7_copy_18 : decode cX7_copy 18 = .ok (.getfield 51, 3) := by decide +kernel
theorem dX7_copy_21 : decode cX7_copy 21 = .ok (.iload_n 1, 1) := by decide +kernel
theorem dX7_copy_22 : decode cX7_copy 22 = .ok (.baload, 1) := by decide +kernel
theorem dX7_copy_23 : decode cX7_copy 23 = .ok (.ifCond .eq 12, 3) := by decide +kernel
theorem dX7_copy_26 : decode cX7_copy 26 = .ok (.aload_n 0, 1) := by decide +kernel
theorem dX7_copy_27 : decode cX7_copy 27 = .ok (.getfield 51, 3) := by decide +kernel
theorem dX7_copy_30 : decode cX7_copy 30 = .ok (.iload_n 3, 1) := by decide +kernel
theorem dX7_copy_31 : decode cX7_copy 31 = .ok (.baload, 1) := by decide +kernel
theorem dX7_copy_32 : decode cX7_copy 32 = .ok (.ifCond .ne 9, 3) := by decide +kernel
theorem dX7_copy_35 : decode cX7_copy 35 = .ok (.aload_n 0, 1) := by decide +kernel
theorem dX7_copy_36 : decode cX7_copy 36 = .ok (.iconst 1, 1) := by decide +kernel
theorem dX7_copy_37 : decode cX7_copy 37 = .ok (.invokevirtual 130, 3) := by decide +kernel
theorem dX7_copy_40 : decode cX7_copy 40 = .ok (.ireturn, 1) := by decide +kernel
theorem dX7_copy_41 : decode cX7_copy 41 = .ok (.aload_n 0, 1) := by decide +kernel
theorem dX7_copy_42 : decode cX7_copy 42 = .ok (.getfield 54, 3) := by decide +kernel
theorem dX7_copy_45 : decode cX7_copy 45 = .ok (.iload_n 1, 1) := by decide +kernel
theorem dX7_copy_46 : decode cX7_copy 46 = .ok (.iaload, 1) := by decide +kernel
theorem dX7_copy_47 : decode cX7_copy 47 = .ok (.aload_n 0, 1) := by decide +kernel
theorem dX7_copy_48 : decode cX7_copy 48 = .ok (.getfield 54, 3) := by decide +kernel
theorem dX7_copy_51 : decode cX7_copy 51 = .ok (.iload_n 3, 1) := by decide +kernel
theorem dX7_copy_52 : decode cX7_copy 52 = .ok (.iaload, 1) := by decide +kernel
theorem dX7_copy_53 : decode cX7_copy 53 = .ok (.if_icmp .eq 9, 3) := by decide +kernel
theorem dX7_copy_56 : decode cX7_copy 56 = .ok (.aload_n 0, 1) := by decide +kernel
theorem dX7_copy_57 : decode cX7_copy 57 = .ok (.iconst 4, 1) := by decide +kernel
theorem dX7_copy_58 : decode cX7_copy 58 = .ok (.invokevirtual 130, 3) := by decide +kernel
theorem dX7_copy_61 : decode cX7_copy 61 = .ok (.ireturn, 1) := by decide +kernel
theorem dX7_copy_62 : decode cX7_copy 62 = .ok (.iload_n 2, 1) := by decide +kernel
theorem dX7_copy_63 : decode cX7_copy 63 = .ok (.ifCond .lt 48, 3) := by decide +kernel
theorem dX7_copy_66 : decode cX7_copy 66 = .ok (.iload 4, 2) := by decide +kernel
theorem dX7_copy_68 : decode cX7_copy 68 = .ok (.ifCond .lt 43, 3) := by decide +kernel
theorem dX7_copy_71 : decode cX7_copy 71 = .ok (.iload 5, 2) := by decide +kernel
theorem dX7_copy_73 : decode cX7_copy 73 = .ok (.ifCond .lt 38, 3) := by decide +kernel
theorem dX7_copy_76 : decode cX7_copy 76 = .ok (.iload_n 2, 1) := by decide +kernel
theorem dX7_copy_77 : decode cX7_copy 77 = .ok (.i2l, 1) := by decide +kernel
theorem dX7_copy_78 : decode cX7_copy 78 = .ok (.iload 5, 2) := by decide +kernel
theorem dX7_copy_80 : decode cX7_copy 80 = .ok (.i2l, 1) := by decide +kernel
theorem dX7_copy_81 : decode cX7_copy 81 = .ok (.ladd, 1) := by decide +kernel
theorem dX7_copy_82 : decode cX7_copy 82 = .ok (.aload_n 0, 1) := by decide +kernel
theorem dX7_copy_83 : decode cX7_copy 83 = .ok (.getfield 57, 3) := by decide +kernel
theorem dX7_copy_86 : decode cX7_copy 86 = .ok (.iload_n 1, 1) := by decide +kernel
theorem dX7_copy_87 : decode cX7_copy 87 = .ok (.iaload, 1) := by decide +kernel
theorem dX7_copy_88 : decode cX7_copy 88 = .ok (.i2l, 1) := by decide +kernel
theorem dX7_copy_89 : decode cX7_copy 89 = .ok (.lcmp, 1) := by decide +kernel
theorem dX7_copy_90 : decode cX7_copy 90 = .ok (.ifCond .gt 21, 3) := by decide +kernel
theorem dX7_copy_93 : decode cX7_copy 93 = .ok (.iload 4, 2) := by decide +kernel
theorem dX7_copy_95 : decode cX7_copy 95 = .ok (.i2l, 1) := by decide +kernel
theorem dX7_copy_96 : decode cX7_copy 96 = .ok (.iload 5, 2) := by decide +kernel
theorem dX7_copy_98 : decode cX7_copy 98 = .ok (.i2l, 1) := by decide +kernel
theorem dX7_copy_99 : decode cX7_copy 99 = .ok (.ladd, 1) := by decide +kernel
theorem dX7_copy_100 : decode cX7_copy 100 = .ok (.aload_n 0, 1) := by decide +kernel
theorem dX7_copy_101 : decode cX7_copy 101 = .ok (.getfield 57, 3) := by decide +kernel
theorem dX7_copy_104 : decode cX7_copy 104 = .ok (.iload_n 3, 1) := by decide +kernel
theorem dX7_copy_105 : decode cX7_copy 105 = .ok (.iaload, 1) := by decide +kernel
theorem dX7_copy_106 : decode cX7_copy 106 = .ok (.i2l, 1) := by decide +kernel
theorem dX7_copy_107 : decode cX7_copy 107 = .ok (.lcmp, 1) := by decide +kernel
theorem dX7_copy_108 : decode cX7_copy 108 = .ok (.ifCond .le 9, 3) := by decide +kernel
theorem dX7_copy_111 : decode cX7_copy 111 = .ok (.aload_n 0, 1) := by decide +kernel
theorem dX7_copy_112 : decode cX7_copy 112 = .ok (.iconst 2, 1) := by decide +kernel
theorem dX7_copy_113 : decode cX7_copy 113 = .ok (.invokevirtual 130, 3) := by decide +kernel
theorem dX7_copy_116 : decode cX7_copy 116 = .ok (.ireturn, 1) := by decide +kernel
theorem dX7_copy_117 : decode cX7_copy 117 = .ok (.iconst 0, 1) := by decide +kernel
theorem dX7_copy_118 : decode cX7_copy 118 = .ok (.istore 6, 2) := by decide +kernel
theorem dX7_copy_120 : decode cX7_copy 120 = .ok (.iload 6, 2) := by decide +kernel
theorem dX7_copy_122 : decode cX7_copy 122 = .ok (.iload 5, 2) := by decide +kernel
theorem dX7_copy_124 : decode cX7_copy 124 = .ok (.if_icmp .ge 30, 3) := by decide +kernel
theorem dX7_copy_127 : decode cX7_copy 127 = .ok (.aload_n 0, 1) := by decide +kernel
theorem dX7_copy_128 : decode cX7_copy 128 = .ok (.getfield 63, 3) := by decide +kernel
theorem dX7_copy_131 : decode cX7_copy 131 = .ok (.iload 6, 2) := by decide +kernel
theorem dX7_copy_133 : decode cX7_copy 133 = .ok (.aload_n 0, 1) := by decide +kernel
theorem dX7_copy_134 : decode cX7_copy 134 = .ok (.getfield 60, 3) := by decide +kernel
theorem dX7_copy_137 : decode cX7_copy 137 = .ok (.bipush 100, 2) := by decide +kernel
theorem dX7_copy_139 : decode cX7_copy 139 = .ok (.iload_n 1, 1) := by decide +kernel
theorem dX7_copy_140 : decode cX7_copy 140 = .ok (.imul, 1) := by decide +kernel
theorem dX7_copy_141 : decode cX7_copy 141 = .ok (.iload_n 2, 1) := by decide +kernel
theorem dX7_copy_142 : decode cX7_copy 142 = .ok (.iadd, 1) := by decide +kernel
theorem dX7_copy_143 : decode cX7_copy 143 = .ok (.iload 6, 2) := by decide +kernel
theorem dX7_copy_145 : decode cX7_copy 145 = .ok (.iadd, 1) := by decide +kernel
theorem dX7_copy_146 : decode cX7_copy 146 = .ok (.iaload, 1) := by decide +kernel
theorem dX7_copy_147 : decode cX7_copy 147 = .ok (.iastore, 1) := by decide +kernel
theorem dX7_copy_148 : decode cX7_copy 148 = .ok (.iinc 6 1, 3) := by decide +kernel
theorem dX7_copy_151 : decode cX7_copy 151 = .ok (.goto (-31), 3) := by decide +kernel
theorem dX7_copy_154 : decode cX7_copy 154 = .ok (.iconst 0, 1) := by decide +kernel
theorem dX7_copy_155 : decode cX7_copy 155 = .ok (.istore 6, 2) := by decide +kernel
theorem dX7_copy_157 : decode cX7_copy 157 = .ok (.iload 6, 2) := by decide +kernel
theorem dX7_copy_159 : decode cX7_copy 159 = .ok (.iload 5, 2) := by decide +kernel
theorem dX7_copy_161 : decode cX7_copy 161 = .ok (.if_icmp .ge 31, 3) := by decide +kernel
theorem dX7_copy_164 : decode cX7_copy 164 = .ok (.aload_n 0, 1) := by decide +kernel
theorem dX7_copy_165 : decode cX7_copy 165 = .ok (.getfield 60, 3) := by decide +kernel
theorem dX7_copy_168 : decode cX7_copy 168 = .ok (.bipush 100, 2) := by decide +kernel
theorem dX7_copy_170 : decode cX7_copy 170 = .ok (.iload_n 3, 1) := by decide +kernel
theorem dX7_copy_171 : decode cX7_copy 171 = .ok (.imul, 1) := by decide +kernel
theorem dX7_copy_172 : decode cX7_copy 172 = .ok (.iload 4, 2) := by decide +kernel
theorem dX7_copy_174 : decode cX7_copy 174 = .ok (.iadd, 1) := by decide +kernel
theorem dX7_copy_175 : decode cX7_copy 175 = .ok (.iload 6, 2) := by decide +kernel
theorem dX7_copy_177 : decode cX7_copy 177 = .ok (.iadd, 1) := by decide +kernel
theorem dX7_copy_178 : decode cX7_copy 178 = .ok (.aload_n 0, 1) := by decide +kernel
theorem dX7_copy_179 : decode cX7_copy 179 = .ok (.getfield 63, 3) := by decide +kernel
theorem dX7_copy_182 : decode cX7_copy 182 = .ok (.iload 6, 2) := by decide +kernel
theorem dX7_copy_184 : decode cX7_copy 184 = .ok (.iaload, 1) := by decide +kernel
theorem dX7_copy_185 : decode cX7_copy 185 = .ok (.iastore, 1) := by decide +kernel
theorem dX7_copy_186 : decode cX7_copy 186 = .ok (.iinc 6 1, 3) := by decide +kernel
theorem dX7_copy_189 : decode cX7_copy 189 = .ok (.goto (-32), 3) := by decide +kernel
theorem dX7_copy_192 : decode cX7_copy 192 = .ok (.iconst 1, 1) := by decide +kernel
theorem dX7_copy_193 : decode cX7_copy 193 = .ok (.ireturn, 1) := by decide +kernel
set_option maxRecDepth 20000 in
theorem ggX7_load_X7_isSheet : GoodIn wsX7_load wsX7_isSheet := goodIn_r _ [8, 9, 10, 7, 11] (by decide +kernel) (by decide +kernel)
set_option maxRecDepth 20000 in
theorem gX7_load_X7_isSheet : GoodIn wsX7_load (va_wsS RX7 126 yX7_isSheet wsX7_isSheet) := goodIn_app (goodIn_of _ (by decide +kernel)) ggX7_load_X7_isSheet
set_option maxRecDepth 20000 in
theorem ggX7_load_X7_in : GoodIn wsX7_load wsX7_in := goodIn_r _ [11] (by decide +kernel) (by decide +kernel)
set_option maxRecDepth 20000 in
theorem gX7_load_X7_in : GoodIn wsX7_load (va_wsS RX7 66 yX7_in wsX7_in) := goodIn_app (goodIn_of _ (by decide +kernel)) ggX7_load_X7_in
set_option maxRecDepth 20000 in
theorem ggX7_load_X7_meets : GoodIn wsX7_load wsX7_meets := goodIn_r _ [15, 16, 17, 18, 19, 20, 21, 22, 23, 24, 25, 26, 27, 28, 29, 30, 31, 32, 33, 34, 35, 36, 37, 38] (by decide +kernel) (by decide +kernel)
set_option maxRecDepth 20000 in
theorem gX7_load_X7_meets : GoodIn wsX7_load (wsV RX7 130 RX7 yX7_meets wsX7_meets) := goodIn_app (goodIn_of _ (by decide +kernel)) ggX7_load_X7_meets
theorem dX7_load_0 : decode cX7_load 0 = .ok (.iload_n 1, 1) := by decide +kernel
theorem dX7_load_1 : decode cX7_load 1 = .ok (.invokestatic 126, 3) := by decide +kernel
theorem dX7_load_4 : decode cX7_load 4 = .ok (.ifCond .eq 14, 3) := by decide +kernel
theorem dX7_load_7 : decode cX7_load 7 = .ok (.iload_n 2, 1) := by decide +kernel
theorem dX7_load_8 : decode cX7_load 8 = .ok (.iconst 0, 1) := by decide +kernel
theorem dX7_load_9 : decode cX7_load 9 = .ok (.sipush 239, 3) := by decide +kernel
theorem dX7_load_12 : decode cX7_load 12 = .ok (.invokestatic 66, 3) := by decide +kernel
theorem dX7_load_15 : decode cX7_load 15 = .ok (.ifCond .ne 6, 3) := by decide +kernel
theorem dX7_load_18 : decode cX7_load 18 = .ok (.bipush (-2), 2) := by decide +kernel
theorem dX7_load_20 : decode cX7_load 20 = .ok (.ireturn, 1) := by decide +kernel
theorem dX7_load_21 : decode cX7_load 21 = .ok (.aload_n 0, 1) := by decide +kernel
theorem dX7_load_22 : decode cX7_load 22 = .ok (.getfield 51, 3) := by decide +kernel
theorem dX7_load_25 : decode cX7_load 25 = .ok (.iload_n 1, 1) := by decide +kernel
theorem dX7_load_26 : decode cX7_load 26 = .ok (.baload, 1) := by decide +kernel
theorem dX7_load_27 : decode cX7_load 27 = .ok (.ifCond .ne 9, 3) := by decide +kernel
theorem dX7_load_30 : decode cX7_load 30 = .ok (.aload_n 0, 1) := by decide +kernel
theorem dX7_load_31 : decode cX7_load 31 = .ok (.iconst 1, 1) := by decide +kernel
theorem dX7_load_32 : decode cX7_load 32 = .ok (.invokevirtual 130, 3) := by decide +kernel
theorem dX7_load_35 : decode cX7_load 35 = .ok (.ireturn, 1) := by decide +kernel
theorem dX7_load_36 : decode cX7_load 36 = .ok (.iload_n 2, 1) := by decide +kernel
theorem dX7_load_37 : decode cX7_load 37 = .ok (.aload_n 0, 1) := by decide +kernel
theorem dX7_load_38 : decode cX7_load 38 = .ok (.getfield 57, 3) := by decide +kernel
theorem dX7_load_41 : decode cX7_load 41 = .ok (.iload_n 1, 1) := by decide +kernel
theorem dX7_load_42 : decode cX7_load 42 = .ok (.iaload, 1) := by decide +kernel
theorem dX7_load_43 : decode cX7_load 43 = .ok (.iadd, 1) := by decide +kernel
theorem dX7_load_44 : decode cX7_load 44 = .ok (.sipush 240, 3) := by decide +kernel
theorem dX7_load_47 : decode cX7_load 47 = .ok (.if_icmp .le 9, 3) := by decide +kernel
theorem dX7_load_50 : decode cX7_load 50 = .ok (.aload_n 0, 1) := by decide +kernel
theorem dX7_load_51 : decode cX7_load 51 = .ok (.iconst 2, 1) := by decide +kernel
theorem dX7_load_52 : decode cX7_load 52 = .ok (.invokevirtual 130, 3) := by decide +kernel
theorem dX7_load_55 : decode cX7_load 55 = .ok (.ireturn, 1) := by decide +kernel
theorem dX7_load_56 : decode cX7_load 56 = .ok (.iconst 0, 1) := by decide +kernel
theorem dX7_load_57 : decode cX7_load 57 = .ok (.istore_n 3, 1) := by decide +kernel
theorem dX7_load_58 : decode cX7_load 58 = .ok (.iload_n 3, 1) := by decide +kernel
theorem dX7_load_59 : decode cX7_load 59 = .ok (.aload_n 0, 1) := by decide +kernel
theorem dX7_load_60 : decode cX7_load 60 = .ok (.getfield 57, 3) := by decide +kernel
theorem dX7_load_63 : decode cX7_load 63 = .ok (.iload_n 1, 1) := by decide +kernel
theorem dX7_load_64 : decode cX7_load 64 = .ok (.iaload, 1) := by decide +kernel
theorem dX7_load_65 : decode cX7_load 65 = .ok (.if_icmp .ge 36, 3) := by decide +kernel
theorem dX7_load_68 : decode cX7_load 68 = .ok (.aload_n 0, 1) := by decide +kernel
theorem dX7_load_69 : decode cX7_load 69 = .ok (.getfield 7, 3) := by decide +kernel
theorem dX7_load_72 : decode cX7_load 72 = .ok (.iload_n 2, 1) := by decide +kernel
theorem dX7_load_73 : decode cX7_load 73 = .ok (.iload_n 3, 1) := by decide +kernel
theorem dX7_load_74 : decode cX7_load 74 = .ok (.iadd, 1) := by decide +kernel
theorem dX7_load_75 : decode cX7_load 75 = .ok (.aload_n 0, 1) := by decide +kernel
theorem dX7_load_76 : decode cX7_load 76 = .ok (.getfield 60, 3) := by decide +kernel
theorem dX7_load_79 : decode cX7_load 79 = .ok (.bipush 100, 2) := by decide +kernel
theorem dX7_load_81 : decode cX7_load 81 = .ok (.iload_n 1, 1) := by decide +kernel
theorem dX7_load_82 : decode cX7_load 82 = .ok (.imul, 1) := by decide +kernel
theorem dX7_load_83 : decode cX7_load 83 = .ok (.iload_n 3, 1) := by decide +kernel
theorem dX7_load_84 : decode cX7_load 84 = .ok (.iadd, 1) := by decide +kernel
theorem dX7_load_85 : decode cX7_load 85 = .ok (.iaload, 1) := by decide +kernel
theorem dX7_load_86 : decode cX7_load 86 = .ok (.ifCond .le 7, 3) := by decide +kernel
theorem dX7_load_89 : decode cX7_load 89 = .ok (.iconst 1, 1) := by decide +kernel
theorem dX7_load_90 : decode cX7_load 90 = .ok (.goto 4, 3) := by decide +kernel
theorem dX7_load_93 : decode cX7_load 93 = .ok (.iconst 0, 1) := by decide +kernel
theorem dX7_load_94 : decode cX7_load 94 = .ok (.bastore, 1) := by decide +kernel
theorem dX7_load_95 : decode cX7_load 95 = .ok (.iinc 3 1, 3) := by decide +kernel
theorem dX7_load_98 : decode cX7_load 98 = .ok (.goto (-40), 3) := by decide +kernel
theorem dX7_load_101 : decode cX7_load 101 = .ok (.aload_n 0, 1) := by decide +kernel
theorem dX7_load_102 : decode cX7_load 102 = .ok (.getfield 57, 3) := by decide +kernel
theorem dX7_load_105 : decode cX7_load 105 = .ok (.iload_n 1, 1) := by decide +kernel
theorem dX7_load_106 : decode cX7_load 106 = .ok (.iaload, 1) := by decide +kernel
theorem dX7_load_107 : decode cX7_load 107 = .ok (.ireturn, 1) := by decide +kernel
set_option maxRecDepth 20000 in
theorem ggX7_write_X7_isSheet : GoodIn wsX7_write wsX7_isSheet := goodIn_r _ [8, 9, 10, 7, 11] (by decide +kernel) (by decide +kernel)
set_option maxRecDepth 20000 in
theorem gX7_write_X7_isSheet : GoodIn wsX7_write (va_wsS RX7 126 yX7_isSheet wsX7_isSheet) := goodIn_app (goodIn_of _ (by decide +kernel)) ggX7_write_X7_isSheet
set_option maxRecDepth 20000 in
theorem ggX7_write_X7_in : GoodIn wsX7_write wsX7_in := goodIn_r _ [11] (by decide +kernel) (by decide +kernel)
set_option maxRecDepth 20000 in
theorem gX7_write_X7_in : GoodIn wsX7_write (va_wsS RX7 66 yX7_in wsX7_in) := goodIn_app (goodIn_of _ (by decide +kernel)) ggX7_write_X7_in
set_option maxRecDepth 20000 in
theorem ggX7_write_X7_meets : GoodIn wsX7_write wsX7_meets := goodIn_r _ [15, 16, 17, 18, 19, 20, 21, 22, 23, 24, 25, 26, 27, 28, 29, 30, 31, 32, 33, 34, 35, 36, 37, 38] (by decide +kernel) (by decide +kernel)
set_option maxRecDepth 20000 in
theorem gX7_write_X7_meets : GoodIn wsX7_write (wsV RX7 130 RX7 yX7_meets wsX7_meets) := goodIn_app (goodIn_of _ (by decide +kernel)) ggX7_write_X7_meets
theorem dX7_write_0 : decode cX7_write 0 = .ok (.iload_n 1, 1) := by decide +kernel
theorem dX7_write_1 : decode cX7_write 1 = .ok (.invokestatic 126, 3) := by decide +kernel
theorem dX7_write_4 : decode cX7_write 4 = .ok (.ifCond .eq 14, 3) := by decide +kernel
theorem dX7_write_7 : decode cX7_write 7 = .ok (.iload_n 2, 1) := by decide +kernel
theorem dX7_write_8 : decode cX7_write 8 = .ok (.iconst 0, 1) := by decide +kernel
theorem dX7_write_9 : decode cX7_write 9 = .ok (.sipush 239, 3) := by decide +kernel
theorem dX7_write_12 : decode cX7_write 12 = .ok (.invokestatic 66, 3) := by decide +kernel
theorem dX7_write_15 : decode cX7_write 15 = .ok (.ifCond .ne 6, 3) := by decide +kernel
theorem dX7_write_18 : decode cX7_write 18 = .ok (.bipush (-2), 2) := by decide +kernel
theorem dX7_write_20 : decode cX7_write 20 = .ok (.ireturn, 1) := by decide +kernel
theorem dX7_write_21 : decode cX7_write 21 = .ok (.aload_n 0, 1) := by decide +kernel
theorem dX7_write_22 : decode cX7_write 22 = .ok (.getfield 51, 3) := by decide +kernel
theorem dX7_write_25 : decode cX7_write 25 = .ok (.iload_n 1, 1) := by decide +kernel
theorem dX7_write_26 : decode cX7_write 26 = .ok (.baload, 1) := by decide +kernel
theorem dX7_write_27 : decode cX7_write 27 = .ok (.ifCond .ne 9, 3) := by decide +kernel
theorem dX7_write_30 : decode cX7_write 30 = .ok (.aload_n 0, 1) := by decide +kernel
theorem dX7_write_31 : decode cX7_write 31 = .ok (.iconst 1, 1) := by decide +kernel
theorem dX7_write_32 : decode cX7_write 32 = .ok (.invokevirtual 130, 3) := by decide +kernel
theorem dX7_write_35 : decode cX7_write 35 = .ok (.ireturn, 1) := by decide +kernel
theorem dX7_write_36 : decode cX7_write 36 = .ok (.aload_n 0, 1) := by decide +kernel
theorem dX7_write_37 : decode cX7_write 37 = .ok (.getfield 57, 3) := by decide +kernel
theorem dX7_write_40 : decode cX7_write 40 = .ok (.iload_n 1, 1) := by decide +kernel
theorem dX7_write_41 : decode cX7_write 41 = .ok (.iaload, 1) := by decide +kernel
theorem dX7_write_42 : decode cX7_write 42 = .ok (.sipush 240, 3) := by decide +kernel
theorem dX7_write_45 : decode cX7_write 45 = .ok (.iload_n 2, 1) := by decide +kernel
theorem dX7_write_46 : decode cX7_write 46 = .ok (.isub, 1) := by decide +kernel
theorem dX7_write_47 : decode cX7_write 47 = .ok (.if_icmp .ge 12, 3) := by decide +kernel
theorem dX7_write_50 : decode cX7_write 50 = .ok (.aload_n 0, 1) := by decide +kernel
theorem dX7_write_51 : decode cX7_write 51 = .ok (.getfield 57, 3) := by decide +kernel
end
section
theorem dX7_write_54 : decode cX7_write 54 = .ok (.iload_n 1, 1) := by decide +kernel
theorem dX7_write_55 : decode cX7_write 55 = .ok (.iaload, 1) := by decide +kernel
theorem dX7_write_56 : decode cX7_write 56 = .ok (.goto 8, 3) := by decide +kernel
theorem dX7_write_59 : decode cX7_write 59 = .ok (.sipush 240, 3) := by decide +kernel
theorem dX7_write_62 : decode cX7_write 62 = .ok (.iload_n 2, 1) := by decide +kernel
theorem dX7_write_63 : decode cX7_write 63 = .ok (.isub, 1) := by decide +kernel
theorem dX7_write_64 : decode cX7_write 64 = .ok (.istore_n 3, 1) := by decide +kernel
theorem dX7_write_65 : decode cX7_write 65 = .ok (.iconst 0, 1) := by decide +kernel
theorem dX7_write_66 : decode cX7_write 66 = .ok (.istore 4, 2) := by decide +kernel
theorem dX7_write_68 : decode cX7_write 68 = .ok (.iload 4, 2) := by decide +kernel
theorem dX7_write_70 : decode cX7_write 70 = .ok (.iload_n 3, 1) := by decide +kernel
theorem dX7_write_71 : decode cX7_write 71 = .ok (.if_icmp .ge 38, 3) := by decide +kernel
theorem dX7_write_74 : decode cX7_write 74 = .ok (.aload_n 0, 1) := by decide +kernel
theorem dX7_write_75 : decode cX7_write 75 = .ok (.getfield 60, 3) := by decide +kernel
theorem dX7_write_78 : decode cX7_write 78 = .ok (.bipush 100, 2) := by decide +kernel
theorem dX7_write_80 : decode cX7_write 80 = .ok (.iload_n 1, 1) := by decide +kernel
theorem dX7_write_81 : decode cX7_write 81 = .ok (.imul, 1) := by decide +kernel
theorem dX7_write_82 : decode cX7_write 82 = .ok (.iload 4, 2) := by decide +kernel
theorem dX7_write_84 : decode cX7_write 84 = .ok (.iadd, 1) := by decide +kernel
theorem dX7_write_85 : decode cX7_write 85 = .ok (.aload_n 0, 1) := by decide +kernel
theorem dX7_write_86 : decode cX7_write 86 = .ok (.getfield 7, 3) := by decide +kernel
theorem dX7_write_89 : decode cX7_write 89 = .ok (.iload_n 2, 1) := by decide +kernel
theorem dX7_write_90 : decode cX7_write 90 = .ok (.iload 4, 2) := by decide +kernel
theorem dX7_write_92 : decode cX7_write 92 = .ok (.iadd, 1) := by decide +kernel
theorem dX7_write_93 : decode cX7_write 93 = .ok (.baload, 1) := by decide +kernel
theorem dX7_write_94 : decode cX7_write 94 = .ok (.ifCond .eq 7, 3) := by decide +kernel
theorem dX7_write_97 : decode cX7_write 97 = .ok (.iconst 1, 1) := by decide +kernel
theorem dX7_write_98 : decode cX7_write 98 = .ok (.goto 4, 3) := by decide +kernel
theorem dX7_write_101 : decode cX7_write 101 = .ok (.iconst 0, 1) := by decide +kernel
theorem dX7_write_102 : decode cX7_write 102 = .ok (.iastore, 1) := by decide +kernel
theorem dX7_write_103 : decode cX7_write 103 = .ok (.iinc 4 1, 3) := by decide +kernel
theorem dX7_write_106 : decode cX7_write 106 = .ok (.goto (-38), 3) := by decide +kernel
theorem dX7_write_109 : decode cX7_write 109 = .ok (.iload_n 3, 1) := by decide +kernel
theorem dX7_write_110 : decode cX7_write 110 = .ok (.ireturn, 1) := by decide +kernel
set_option maxRecDepth 20000 in
theorem ggX7_count_X7_balls : GoodIn wsX7_count wsX7_balls := goodIn_r _ [9, 10, 16, 17, 18, 19, 20, 21, 22, 23, 24, 25, 26, 27, 28, 29, 30, 31, 32, 33, 34, 35, 36, 37] (by decide +kernel) (by decide +kernel)
set_option maxRecDepth 20000 in
theorem gX7_count_X7_balls : GoodIn wsX7_count (wsV RX7 70 RX7 yX7_balls wsX7_balls) := goodIn_app (goodIn_of _ (by decide +kernel)) ggX7_count_X7_balls
set_option maxRecDepth 20000 in
theorem ggX7_count_X7_ringBalls : GoodIn wsX7_count wsX7_ringBalls := goodIn_r _ [14, 1, 15, 16, 17, 18, 19, 20, 21, 22, 23, 24, 25, 26, 27, 28, 29, 30, 31, 32, 33, 34, 35, 36, 37] (by decide +kernel) (by decide +kernel)
set_option maxRecDepth 20000 in
theorem gX7_count_X7_ringBalls : GoodIn wsX7_count (wsV RX7 138 RX7 yX7_ringBalls wsX7_ringBalls) := goodIn_app (goodIn_of _ (by decide +kernel)) ggX7_count_X7_ringBalls
theorem dX7_count_0 : decode cX7_count 0 = .ok (.iload_n 1, 1) := by decide +kernel
theorem dX7_count_1 : decode cX7_count 1 = .ok (.tableswitch 69 0 5 #[39, 44, 49, 54, 59, 64], 39) := by decide +kernel
theorem dX7_count_40 : decode cX7_count 40 = .ok (.aload_n 0, 1) := by decide +kernel
theorem dX7_count_41 : decode cX7_count 41 = .ok (.invokevirtual 70, 3) := by decide +kernel
theorem dX7_count_44 : decode cX7_count 44 = .ok (.ireturn, 1) := by decide +kernel
theorem dX7_count_45 : decode cX7_count 45 = .ok (.aload_n 0, 1) := by decide +kernel
theorem dX7_count_46 : decode cX7_count 46 = .ok (.getfield 38, 3) := by decide +kernel
theorem dX7_count_49 : decode cX7_count 49 = .ok (.ireturn, 1) := by decide +kernel
theorem dX7_count_50 : decode cX7_count 50 = .ok (.aload_n 0, 1) := by decide +kernel
theorem dX7_count_51 : decode cX7_count 51 = .ok (.invokevirtual 138, 3) := by decide +kernel
theorem dX7_count_54 : decode cX7_count 54 = .ok (.ireturn, 1) := by decide +kernel
theorem dX7_count_55 : decode cX7_count 55 = .ok (.aload_n 0, 1) := by decide +kernel
theorem dX7_count_56 : decode cX7_count 56 = .ok (.getfield 104, 3) := by decide +kernel
theorem dX7_count_59 : decode cX7_count 59 = .ok (.ireturn, 1) := by decide +kernel
theorem dX7_count_60 : decode cX7_count 60 = .ok (.aload_n 0, 1) := by decide +kernel
theorem dX7_count_61 : decode cX7_count 61 = .ok (.getfield 74, 3) := by decide +kernel
theorem dX7_count_64 : decode cX7_count 64 = .ok (.ireturn, 1) := by decide +kernel
theorem dX7_count_65 : decode cX7_count 65 = .ok (.aload_n 0, 1) := by decide +kernel
theorem dX7_count_66 : decode cX7_count 66 = .ok (.getfield 123, 3) := by decide +kernel
theorem dX7_count_69 : decode cX7_count 69 = .ok (.ireturn, 1) := by decide +kernel
theorem dX7_count_70 : decode cX7_count 70 = .ok (.bipush (-2), 2) := by decide +kernel
theorem dX7_count_72 : decode cX7_count 72 = .ok (.ireturn, 1) := by decide +kernel
set_option maxRecDepth 20000 in
theorem ggX7_digest_X7_count : GoodIn wsX7_digest wsX7_count := goodIn_r _ [10, 4, 11, 12, 13, 14, 15, 16, 9, 17, 3, 18, 19, 20, 21, 5, 22, 23, 24, 25, 26, 27, 28, 29, 30, 31, 32, 33, 34, 35, 36, 37, 38, 39, 40, 41, 42, 43] (by decide +kernel) (by decide +kernel)
set_option maxRecDepth 20000 in
theorem gX7_digest_X7_count : GoodIn wsX7_digest (wsV RX7 145 RX7 yX7_count wsX7_count) := goodIn_app (goodIn_of _ (by decide +kernel)) ggX7_digest_X7_count
theorem dX7_digest_0 : decode cX7_digest 0 = .ok (.ldc2_w 141, 3) := by decide +kernel
theorem dX7_digest_3 : decode cX7_digest 3 = .ok (.lstore_n 1, 1) := by decide +kernel
theorem dX7_digest_4 : decode cX7_digest 4 = .ok (.iconst 0, 1) := by decide +kernel
theorem dX7_digest_5 : decode cX7_digest 5 = .ok (.istore_n 3, 1) := by decide +kernel
theorem dX7_digest_6 : decode cX7_digest 6 = .ok (.iload_n 3, 1) := by decide +kernel
theorem dX7_digest_7 : decode cX7_digest 7 = .ok (.iconst 5, 1) := by decide +kernel
theorem dX7_digest_8 : decode cX7_digest 8 = .ok (.if_icmp .ge 22, 3) := by decide +kernel
theorem dX7_digest_11 : decode cX7_digest 11 = .ok (.ldc2_w 143, 3) := by decide +kernel
theorem dX7_digest_14 : decode cX7_digest 14 = .ok (.lload_n 1, 1) := by decide +kernel
theorem dX7_digest_15 : decode cX7_digest 15 = .ok (.lmul, 1) := by decide +kernel
theorem dX7_digest_16 : decode cX7_digest 16 = .ok (.aload_n 0, 1) := by decide +kernel
theorem dX7_digest_17 : decode cX7_digest 17 = .ok (.iload_n 3, 1) := by decide +kernel
theorem dX7_digest_18 : decode cX7_digest 18 = .ok (.invokevirtual 145, 3) := by decide +kernel
theorem dX7_digest_21 : decode cX7_digest 21 = .ok (.i2l, 1) := by decide +kernel
theorem dX7_digest_22 : decode cX7_digest 22 = .ok (.ladd, 1) := by decide +kernel
theorem dX7_digest_23 : decode cX7_digest 23 = .ok (.lstore_n 1, 1) := by decide +kernel
theorem dX7_digest_24 : decode cX7_digest 24 = .ok (.iinc 3 1, 3) := by decide +kernel
theorem dX7_digest_27 : decode cX7_digest 27 = .ok (.goto (-21), 3) := by decide +kernel
theorem dX7_digest_30 : decode cX7_digest 30 = .ok (.iconst 0, 1) := by decide +kernel
theorem dX7_digest_31 : decode cX7_digest 31 = .ok (.istore_n 3, 1) := by decide +kernel
theorem dX7_digest_32 : decode cX7_digest 32 = .ok (.iload_n 3, 1) := by decide +kernel
theorem dX7_digest_33 : decode cX7_digest 33 = .ok (.sipush 240, 3) := by decide +kernel
theorem dX7_digest_36 : decode cX7_digest 36 = .ok (.if_icmp .ge 31, 3) := by decide +kernel
theorem dX7_digest_39 : decode cX7_digest 39 = .ok (.ldc2_w 143, 3) := by decide +kernel
theorem dX7_digest_42 : decode cX7_digest 42 = .ok (.lload_n 1, 1) := by decide +kernel
theorem dX7_digest_43 : decode cX7_digest 43 = .ok (.lmul, 1) := by decide +kernel
theorem dX7_digest_44 : decode cX7_digest 44 = .ok (.aload_n 0, 1) := by decide +kernel
theorem dX7_digest_45 : decode cX7_digest 45 = .ok (.getfield 7, 3) := by decide +kernel
theorem dX7_digest_48 : decode cX7_digest 48 = .ok (.iload_n 3, 1) := by decide +kernel
theorem dX7_digest_49 : decode cX7_digest 49 = .ok (.baload, 1) := by decide +kernel
theorem dX7_digest_50 : decode cX7_digest 50 = .ok (.ifCond .eq 7, 3) := by decide +kernel
theorem dX7_digest_53 : decode cX7_digest 53 = .ok (.iconst 1, 1) := by decide +kernel
theorem dX7_digest_54 : decode cX7_digest 54 = .ok (.goto 4, 3) := by decide +kernel
theorem dX7_digest_57 : decode cX7_digest 57 = .ok (.iconst 0, 1) := by decide +kernel
theorem dX7_digest_58 : decode cX7_digest 58 = .ok (.i2l, 1) := by decide +kernel
theorem dX7_digest_59 : decode cX7_digest 59 = .ok (.ladd, 1) := by decide +kernel
theorem dX7_digest_60 : decode cX7_digest 60 = .ok (.lstore_n 1, 1) := by decide +kernel
theorem dX7_digest_61 : decode cX7_digest 61 = .ok (.iinc 3 1, 3) := by decide +kernel
theorem dX7_digest_64 : decode cX7_digest 64 = .ok (.goto (-32), 3) := by decide +kernel
theorem dX7_digest_67 : decode cX7_digest 67 = .ok (.iconst 0, 1) := by decide +kernel
theorem dX7_digest_68 : decode cX7_digest 68 = .ok (.istore_n 3, 1) := by decide +kernel
theorem dX7_digest_69 : decode cX7_digest 69 = .ok (.iload_n 3, 1) := by decide +kernel
theorem dX7_digest_70 : decode cX7_digest 70 = .ok (.aload_n 0, 1) := by decide +kernel
theorem dX7_digest_71 : decode cX7_digest 71 = .ok (.getfield 38, 3) := by decide +kernel
theorem dX7_digest_74 : decode cX7_digest 74 = .ok (.if_icmp .ge 31, 3) := by decide +kernel
theorem dX7_digest_77 : decode cX7_digest 77 = .ok (.ldc2_w 143, 3) := by decide +kernel
theorem dX7_digest_80 : decode cX7_digest 80 = .ok (.lload_n 1, 1) := by decide +kernel
theorem dX7_digest_81 : decode cX7_digest 81 = .ok (.lmul, 1) := by decide +kernel
theorem dX7_digest_82 : decode cX7_digest 82 = .ok (.aload_n 0, 1) := by decide +kernel
theorem dX7_digest_83 : decode cX7_digest 83 = .ok (.getfield 42, 3) := by decide +kernel
theorem dX7_digest_86 : decode cX7_digest 86 = .ok (.iload_n 3, 1) := by decide +kernel
theorem dX7_digest_87 : decode cX7_digest 87 = .ok (.baload, 1) := by decide +kernel
theorem dX7_digest_88 : decode cX7_digest 88 = .ok (.ifCond .eq 7, 3) := by decide +kernel
theorem dX7_digest_91 : decode cX7_digest 91 = .ok (.iconst 1, 1) := by decide +kernel
theorem dX7_digest_92 : decode cX7_digest 92 = .ok (.goto 4, 3) := by decide +kernel
theorem dX7_digest_95 : decode cX7_digest 95 = .ok (.iconst 0, 1) := by decide +kernel
theorem dX7_digest_96 : decode cX7_digest 96 = .ok (.i2l, 1) := by decide +kernel
theorem dX7_digest_97 : decode cX7_digest 97 = .ok (.ladd, 1) := by decide +kernel
theorem dX7_digest_98 : decode cX7_digest 98 = .ok (.lstore_n 1, 1) := by decide +kernel
theorem dX7_digest_99 : decode cX7_digest 99 = .ok (.iinc 3 1, 3) := by decide +kernel
theorem dX7_digest_102 : decode cX7_digest 102 = .ok (.goto (-33), 3) := by decide +kernel
theorem dX7_digest_105 : decode cX7_digest 105 = .ok (.lload_n 1, 1) := by decide +kernel
theorem dX7_digest_106 : decode cX7_digest 106 = .ok (.lreturn, 1) := by decide +kernel
theorem dJ6_bitCount_0f7a4_0 : decode cJ6_bitCount_0f7a4 0 = .ok (.iload_n 0, 1) := by decide +kernel
theorem dJ6_bitCount_0f7a4_1 : decode cJ6_bitCount_0f7a4 1 = .ok (.iload_n 0, 1) := by decide +kernel
theorem dJ6_bitCount_0f7a4_2 : decode cJ6_bitCount_0f7a4 2 = .ok (.iconst 1, 1) := by decide +kernel
theorem dJ6_bitCount_0f7a4_3 : decode cJ6_bitCount_0f7a4 3 = .ok (.iushr, 1) := by decide +kernel
theorem dJ6_bitCount_0f7a4_4 : decode cJ6_bitCount_0f7a4 4 = .ok (.ldc_w 265, 3) := by decide +kernel
theorem dJ6_bitCount_0f7a4_7 : decode cJ6_bitCount_0f7a4 7 = .ok (.iand, 1) := by decide +kernel
theorem dJ6_bitCount_0f7a4_8 : decode cJ6_bitCount_0f7a4 8 = .ok (.isub, 1) := by decide +kernel
theorem dJ6_bitCount_0f7a4_9 : decode cJ6_bitCount_0f7a4 9 = .ok (.istore_n 0, 1) := by decide +kernel
theorem dJ6_bitCount_0f7a4_10 : decode cJ6_bitCount_0f7a4 10 = .ok (.iload_n 0, 1) := by decide +kernel
theorem dJ6_bitCount_0f7a4_11 : decode cJ6_bitCount_0f7a4 11 = .ok (.ldc_w 266, 3) := by decide +kernel
theorem dJ6_bitCount_0f7a4_14 : decode cJ6_bitCount_0f7a4 14 = .ok (.iand, 1) := by decide +kernel
theorem dJ6_bitCount_0f7a4_15 : decode cJ6_bitCount_0f7a4 15 = .ok (.iload_n 0, 1) := by decide +kernel
theorem dJ6_bitCount_0f7a4_16 : decode cJ6_bitCount_0f7a4 16 = .ok (.iconst 2, 1) := by decide +kernel
theorem dJ6_bitCount_0f7a4_17 : decode cJ6_bitCount_0f7a4 17 = .ok (.iushr, 1) := by decide +kernel
theorem dJ6_bitCount_0f7a4_18 : decode cJ6_bitCount_0f7a4 18 = .ok (.ldc_w 266, 3) := by decide +kernel
theorem dJ6_bitCount_0f7a4_21 : decode cJ6_bitCount_0f7a4 21 = .ok (.iand, 1) := by decide +kernel
theorem dJ6_bitCount_0f7a4_22 : decode cJ6_bitCount_0f7a4 22 = .ok (.iadd, 1) := by decide +kernel
theorem dJ6_bitCount_0f7a4_23 : decode cJ6_bitCount_0f7a4 23 = .ok (.istore_n 0, 1) := by decide +kernel
theorem dJ6_bitCount_0f7a4_24 : decode cJ6_bitCount_0f7a4 24 = .ok (.iload_n 0, 1) := by decide +kernel
theorem dJ6_bitCount_0f7a4_25 : decode cJ6_bitCount_0f7a4 25 = .ok (.iload_n 0, 1) := by decide +kernel
theorem dJ6_bitCount_0f7a4_26 : decode cJ6_bitCount_0f7a4 26 = .ok (.iconst 4, 1) := by decide +kernel
theorem dJ6_bitCount_0f7a4_27 : decode cJ6_bitCount_0f7a4 27 = .ok (.iushr, 1) := by decide +kernel
theorem dJ6_bitCount_0f7a4_28 : decode cJ6_bitCount_0f7a4 28 = .ok (.iadd, 1) := by decide +kernel
theorem dJ6_bitCount_0f7a4_29 : decode cJ6_bitCount_0f7a4 29 = .ok (.ldc_w 267, 3) := by decide +kernel
theorem dJ6_bitCount_0f7a4_32 : decode cJ6_bitCount_0f7a4 32 = .ok (.iand, 1) := by decide +kernel
theorem dJ6_bitCount_0f7a4_33 : decode cJ6_bitCount_0f7a4 33 = .ok (.istore_n 0, 1) := by decide +kernel
theorem dJ6_bitCount_0f7a4_34 : decode cJ6_bitCount_0f7a4 34 = .ok (.iload_n 0, 1) := by decide +kernel
theorem dJ6_bitCount_0f7a4_35 : decode cJ6_bitCount_0f7a4 35 = .ok (.iload_n 0, 1) := by decide +kernel
theorem dJ6_bitCount_0f7a4_36 : decode cJ6_bitCount_0f7a4 36 = .ok (.bipush 8, 2) := by decide +kernel
theorem dJ6_bitCount_0f7a4_38 : decode cJ6_bitCount_0f7a4 38 = .ok (.iushr, 1) := by decide +kernel
theorem dJ6_bitCount_0f7a4_39 : decode cJ6_bitCount_0f7a4 39 = .ok (.iadd, 1) := by decide +kernel
theorem dJ6_bitCount_0f7a4_40 : decode cJ6_bitCount_0f7a4 40 = .ok (.istore_n 0, 1) := by decide +kernel
theorem dJ6_bitCount_0f7a4_41 : decode cJ6_bitCount_0f7a4 41 = .ok (.iload_n 0, 1) := by decide +kernel
theorem dJ6_bitCount_0f7a4_42 : decode cJ6_bitCount_0f7a4 42 = .ok (.iload_n 0, 1) := by decide +kernel
theorem dJ6_bitCount_0f7a4_43 : decode cJ6_bitCount_0f7a4 43 = .ok (.bipush 16, 2) := by decide +kernel
theorem dJ6_bitCount_0f7a4_45 : decode cJ6_bitCount_0f7a4 45 = .ok (.iushr, 1) := by decide +kernel
theorem dJ6_bitCount_0f7a4_46 : decode cJ6_bitCount_0f7a4 46 = .ok (.iadd, 1) := by decide +kernel
theorem dJ6_bitCount_0f7a4_47 : decode cJ6_bitCount_0f7a4 47 = .ok (.istore_n 0, 1) := by decide +kernel
theorem dJ6_bitCount_0f7a4_48 : decode cJ6_bitCount_0f7a4 48 = .ok (.iload_n 0, 1) := by decide +kernel
theorem dJ6_bitCount_0f7a4_49 : decode cJ6_bitCount_0f7a4 49 = .ok (.bipush 63, 2) := by decide +kernel
theorem dJ6_bitCount_0f7a4_51 : decode cJ6_bitCount_0f7a4 51 = .ok (.iand, 1) := by decide +kernel
theorem dJ6_bitCount_0f7a4_52 : decode cJ6_bitCount_0f7a4 52 = .ok (.ireturn, 1) := by decide +kernel
theorem dJ13_bitCount_95d88_0 : decode cJ13_bitCount_95d88 0 = .ok (.lload_n 0, 1) := by decide +kernel
theorem dJ13_bitCount_95d88_1 : decode cJ13_bitCount_95d88 1 = .ok (.lload_n 0, 1) := by decide +kernel
theorem dJ13_bitCount_95d88_2 : decode cJ13_bitCount_95d88 2 = .ok (.iconst 1, 1) := by decide +kernel
theorem dJ13_bitCount_95d88_3 : decode cJ13_bitCount_95d88 3 = .ok (.lushr, 1) := by decide +kernel
theorem dJ13_bitCount_95d88_4 : decode cJ13_bitCount_95d88 4 = .ok (.ldc2_w 314, 3) := by decide +kernel
theorem dJ13_bitCount_95d88_7 : decode cJ13_bitCount_95d88 7 = .ok (.land, 1) := by decide +kernel
theorem dJ13_bitCount_95d88_8 : decode cJ13_bitCount_95d88 8 = .ok (.lsub, 1) := by decide +kernel
theorem dJ13_bitCount_95d88_9 : decode cJ13_bitCount_95d88 9 = .ok (.lstore_n 0, 1) := by decide +kernel
theorem dJ13_bitCount_95d88_10 : decode cJ13_bitCount_95d88 10 = .ok (.lload_n 0, 1) := by decide +kernel
theorem dJ13_bitCount_95d88_11 : decode cJ13_bitCount_95d88 11 = .ok (.ldc2_w 316, 3) := by decide +kernel
theorem dJ13_bitCount_95d88_14 : decode cJ13_bitCount_95d88 14 = .ok (.land, 1) := by decide +kernel
theorem dJ13_bitCount_95d88_15 : decode cJ13_bitCount_95d88 15 = .ok (.lload_n 0, 1) := by decide +kernel
theorem dJ13_bitCount_95d88_16 : decode cJ13_bitCount_95d88 16 = .ok (.iconst 2, 1) := by decide +kernel
theorem dJ13_bitCount_95d88_17 : decode cJ13_bitCount_95d88 17 = .ok (.lushr, 1) := by decide +kernel
theorem dJ13_bitCount_95d88_18 : decode cJ13_bitCount_95d88 18 = .ok (.ldc2_w 316, 3) := by decide +kernel
theorem dJ13_bitCount_95d88_21 : decode cJ13_bitCount_95d88 21 = .ok (.land, 1) := by decide +kernel
theorem dJ13_bitCount_95d88_22 : decode cJ13_bitCount_95d88 22 = .ok (.ladd, 1) := by decide +kernel
theorem dJ13_bitCount_95d88_23 : decode cJ13_bitCount_95d88 23 = .ok (.lstore_n 0, 1) := by decide +kernel
theorem dJ13_bitCount_95d88_24 : decode cJ13_bitCount_95d88 24 = .ok (.lload_n 0, 1) := by decide +kernel
theorem dJ13_bitCount_95d88_25 : decode cJ13_bitCount_95d88 25 = .ok (.lload_n 0, 1) := by decide +kernel
theorem dJ13_bitCount_95d88_26 : decode cJ13_bitCount_95d88 26 = .ok (.iconst 4, 1) := by decide +kernel
theorem dJ13_bitCount_95d88_27 : decode cJ13_bitCount_95d88 27 = .ok (.lushr, 1) := by decide +kernel
theorem dJ13_bitCount_95d88_28 : decode cJ13_bitCount_95d88 28 = .ok (.ladd, 1) := by decide +kernel
theorem dJ13_bitCount_95d88_29 : decode cJ13_bitCount_95d88 29 = .ok (.ldc2_w 318, 3) := by decide +kernel
theorem dJ13_bitCount_95d88_32 : decode cJ13_bitCount_95d88 32 = .ok (.land, 1) := by decide +kernel
theorem dJ13_bitCount_95d88_33 : decode cJ13_bitCount_95d88 33 = .ok (.lstore_n 0, 1) := by decide +kernel
theorem dJ13_bitCount_95d88_34 : decode cJ13_bitCount_95d88 34 = .ok (.lload_n 0, 1) := by decide +kernel
theorem dJ13_bitCount_95d88_35 : decode cJ13_bitCount_95d88 35 = .ok (.lload_n 0, 1) := by decide +kernel
theorem dJ13_bitCount_95d88_36 : decode cJ13_bitCount_95d88 36 = .ok (.bipush 8, 2) := by decide +kernel
theorem dJ13_bitCount_95d88_38 : decode cJ13_bitCount_95d88 38 = .ok (.lushr, 1) := by decide +kernel
theorem dJ13_bitCount_95d88_39 : decode cJ13_bitCount_95d88 39 = .ok (.ladd, 1) := by decide +kernel
theorem dJ13_bitCount_95d88_40 : decode cJ13_bitCount_95d88 40 = .ok (.lstore_n 0, 1) := by decide +kernel
theorem dJ13_bitCount_95d88_41 : decode cJ13_bitCount_95d88 41 = .ok (.lload_n 0, 1) := by decide +kernel
theorem dJ13_bitCount_95d88_42 : decode cJ13_bitCount_95d88 42 = .ok (.lload_n 0, 1) := by decide +kernel
theorem dJ13_bitCount_95d88_43 : decode cJ13_bitCount_95d88 43 = .ok (.bipush 16, 2) := by decide +kernel
theorem dJ13_bitCount_95d88_45 : decode cJ13_bitCount_95d88 45 = .ok (.lushr, 1) := by decide +kernel
theorem dJ13_bitCount_95d88_46 : decode cJ13_bitCount_95d88 46 = .ok (.ladd, 1) := by decide +kernel
theorem dJ13_bitCount_95d88_47 : decode cJ13_bitCount_95d88 47 = .ok (.lstore_n 0, 1) := by decide +kernel
theorem dJ13_bitCount_95d88_48 : decode cJ13_bitCount_95d88 48 = .ok (.lload_n 0, 1) := by decide +kernel
theorem dJ13_bitCount_95d88_49 : decode cJ13_bitCount_95d88 49 = .ok (.lload_n 0, 1) := by decide +kernel
theorem dJ13_bitCount_95d88_50 : decode cJ13_bitCount_95d88 50 = .ok (.bipush 32, 2) := by decide +kernel
theorem dJ13_bitCount_95d88_52 : decode cJ13_bitCount_95d88 52 = .ok (.lushr, 1) := by decide +kernel
theorem dJ13_bitCount_95d88_53 : decode cJ13_bitCount_95d88 53 = .ok (.ladd, 1) := by decide +kernel
theorem dJ13_bitCount_95d88_54 : decode cJ13_bitCount_95d88 54 = .ok (.lstore_n 0, 1) := by decide +kernel
theorem dJ13_bitCount_95d88_55 : decode cJ13_bitCount_95d88 55 = .ok (.lload_n 0, 1) := by decide +kernel
theorem dJ13_bitCount_95d88_56 : decode cJ13_bitCount_95d88 56 = .ok (.l2i, 1) := by decide +kernel
theorem dJ13_bitCount_95d88_57 : decode cJ13_bitCount_95d88 57 = .ok (.bipush 127, 2) := by decide +kernel
theorem dJ13_bitCount_95d88_59 : decode cJ13_bitCount_95d88 59 = .ok (.iand, 1) := by decide +kernel
theorem dJ13_bitCount_95d88_60 : decode cJ13_bitCount_95d88 60 = .ok (.ireturn, 1) := by decide +kernel
theorem dJ9_max_7cf53_0 : decode cJ9_max_7cf53 0 = .ok (.iload_n 0, 1) := by decide +kernel
theorem dJ9_max_7cf53_1 : decode cJ9_max_7cf53 1 = .ok (.iload_n 1, 1) := by decide +kernel
theorem dJ9_max_7cf53_2 : decode cJ9_max_7cf53 2 = .ok (.if_icmp .lt 7, 3) := by decide +kernel
theorem dJ9_max_7cf53_5 : decode cJ9_max_7cf53 5 = .ok (.iload_n 0, 1) := by decide +kernel
theorem dJ9_max_7cf53_6 : decode cJ9_max_7cf53 6 = .ok (.goto 4, 3) := by decide +kernel
theorem dJ9_max_7cf53_9 : decode cJ9_max_7cf53 9 = .ok (.iload_n 1, 1) := by decide +kernel
theorem dJ9_max_7cf53_10 : decode cJ9_max_7cf53 10 = .ok (.ireturn, 1) := by decide +kernel
theorem dJ9_min_7cf53_0 : decode cJ9_min_7cf53 0 = .ok (.iload_n 0, 1) := by decide +kernel
theorem dJ9_min_7cf53_1 : decode cJ9_min_7cf53 1 = .ok (.iload_n 1, 1) := by decide +kernel
theorem dJ9_min_7cf53_2 : decode cJ9_min_7cf53 2 = .ok (.if_icmp .gt 7, 3) := by decide +kernel
theorem dJ9_min_7cf53_5 : decode cJ9_min_7cf53 5 = .ok (.iload_n 0, 1) := by decide +kernel
theorem dJ9_min_7cf53_6 : decode cJ9_min_7cf53 6 = .ok (.goto 4, 3) := by decide +kernel
theorem dJ9_min_7cf53_9 : decode cJ9_min_7cf53 9 = .ok (.iload_n 1, 1) := by decide +kernel
theorem dJ9_min_7cf53_10 : decode cJ9_min_7cf53 10 = .ok (.ireturn, 1) := by decide +kernel
abbrev vwCl : List vw_C := [(RX0, TX0, 2), (RX1, TX1, 4), (RX2, TX2, 2), (RX3, TX3, 2), (RX4, TX4, 4), (RX5, TX5, 5), (RX6, TX6, 9), (RX7, TX7, 22)]
end
section
def wsL_law_r1 : List Cond := [Cond.classLink RL 7 RX6, Cond.instantiable RX6 9, Cond.initialized RX6, Cond.classLink RL 10 RX7, Cond.instantiable RX7 22, Cond.initialized RX7, Cond.methodLink RL 9 yX6_init, Cond.instanceMethod yX6_init, Cond.code yX6_init cX6_init 2 none, Cond.methodLink RX6 1 objectInit, Cond.instanceMethod objectInit, Cond.code objectInit ⟨#[0xb1]⟩ 1 none, Cond.classLink RX6 7 RX3, Cond.instantiable RX3 2, Cond.initialized RX3, Cond.fieldLink RX6 10 "BallBoxes" "theRow" "LBallBoxes$Row;", Cond.classLink RX6 16 RX0, Cond.instantiable RX0 2, Cond.initialized RX0, Cond.fieldLink RX6 19 "BallBoxes" "pairs" "LBallBoxes$Pairs;", Cond.classLink RX6 23 RX5, Cond.instantiable RX5 5, Cond.initialized RX5, Cond.fieldLink RX6 26 "BallBoxes" "latestStrings" "LBallBoxes$Strings;"]
def wsL_law_r2 : List Cond := [Cond.fieldLink RX6 30 "BallBoxes" "leapStrings" "LBallBoxes$Strings;", Cond.classLink RX6 33 RX1, Cond.instantiable RX1 4, Cond.initialized RX1, Cond.fieldLink RX6 36 "BallBoxes" "theRing" "LBallBoxes$Ring;", Cond.classLink RX6 40 RX2, Cond.instantiable RX2 2, Cond.initialized RX2, Cond.fieldLink RX6 43 "BallBoxes" "trial" "LBallBoxes$RingTrial;", Cond.classLink RX6 47 RX4, Cond.fieldLink RX6 49 "BallBoxes" "sheets" "[LBallBoxes$Sheet;", Cond.instantiable RX4 4, Cond.initialized RX4, Cond.instanceMethod yX3_init, Cond.code yX3_init cX3_init 1 none, Cond.methodLink RX3 3 objectInit, Cond.arrayClass .int, Cond.fieldLink RX3 9 "BallBoxes$Row" "boxes" "[I", Cond.fieldLink RX3 15 "BallBoxes$Row" "made" "[I", Cond.instanceMethod yX0_init, Cond.code yX0_init cX0_init 1 none, Cond.methodLink RX0 3 objectInit, Cond.fieldLink RX0 9 "BallBoxes$Pairs" "left" "[I", Cond.instanceMethod yX5_init]
def wsL_law_r3 : List Cond := [Cond.code yX5_init cX5_init 1 none, Cond.methodLink RX5 3 objectInit, Cond.fieldLink RX5 9 "BallBoxes$Strings" "lengths" "[I", Cond.fieldLink RX5 15 "BallBoxes$Strings" "riggings" "[I", Cond.fieldLink RX5 18 "BallBoxes$Strings" "lesserSums" "[I", Cond.instanceMethod yX1_init, Cond.code yX1_init cX1_init 1 none, Cond.methodLink RX1 1 objectInit, Cond.fieldLink RX1 7 "BallBoxes$Ring" "size" "I", Cond.instanceMethod yX2_init, Cond.code yX2_init cX2_init 1 none, Cond.methodLink RX2 3 objectInit, Cond.classLink RX2 9 RX1, Cond.fieldLink RX2 12 "BallBoxes$RingTrial" "ring" "LBallBoxes$Ring;", Cond.arrayClass .long, Cond.fieldLink RX2 18 "BallBoxes$RingTrial" "seen" "[J", Cond.instanceMethod yX4_init, Cond.code yX4_init cX4_init 1 none, Cond.methodLink RX4 3 objectInit, Cond.fieldLink RX4 9 "BallBoxes$Sheet" "items" "[I", Cond.fieldLink RX4 15 "BallBoxes$Sheet" "lost" "Z", Cond.methodLink RL 12 yX7_init, Cond.instanceMethod yX7_init, Cond.code yX7_init cX7_init 1 none]
def wsL_law_r4 : List Cond := [Cond.methodLink RX7 1 objectInit, Cond.arrayClass .boolean, Cond.fieldLink RX7 7 "BallBoxesModel" "boxes" "[Z", Cond.fieldLink RX7 13 "BallBoxesModel" "next" "[Z", Cond.fieldLink RX7 16 "BallBoxesModel" "left" "[Z", Cond.fieldLink RX7 19 "BallBoxesModel" "pairs" "[I", Cond.fieldLink RX7 23 "BallBoxesModel" "lengths" "[I", Cond.fieldLink RX7 26 "BallBoxesModel" "riggings" "[I", Cond.fieldLink RX7 29 "BallBoxesModel" "toldLength" "[I", Cond.fieldLink RX7 32 "BallBoxesModel" "toldRigging" "[I", Cond.fieldLink RX7 35 "BallBoxesModel" "toldRoom" "[I", Cond.fieldLink RX7 38 "BallBoxesModel" "ringN" "I", Cond.fieldLink RX7 42 "BallBoxesModel" "ring" "[Z", Cond.fieldLink RX7 45 "BallBoxesModel" "was" "[Z", Cond.fieldLink RX7 48 "BallBoxesModel" "saved" "[Z", Cond.fieldLink RX7 51 "BallBoxesModel" "isThere" "[Z", Cond.fieldLink RX7 54 "BallBoxesModel" "forms" "[I", Cond.fieldLink RX7 57 "BallBoxesModel" "sizes" "[I", Cond.fieldLink RX7 60 "BallBoxesModel" "items" "[I", Cond.fieldLink RX7 63 "BallBoxesModel" "moved" "[I", Cond.methodLink RL 13 yX6_set, Cond.instanceMethod yX6_set, Cond.selects RX6 yX6_set yX6_set, Cond.code yX6_set cX6_set 4 (some .int)]
def wsL_law_r5 : List Cond := [Cond.methodLink RX6 54 yX6_isBox, Cond.static yX6_isBox, Cond.code yX6_isBox cX6_isBox 1 (some .boolean), Cond.methodLink RX6 58 yX3_ballAt, Cond.instanceMethod yX3_ballAt, Cond.selects RX3 yX3_ballAt yX3_ballAt, Cond.code yX3_ballAt cX3_ballAt 2 (some .int), Cond.methodLink RX6 62 yX3_place, Cond.instanceMethod yX3_place, Cond.selects RX3 yX3_place yX3_place, Cond.code yX3_place cX3_place 3 none, Cond.methodLink RL 17 yX7_set, Cond.instanceMethod yX7_set, Cond.selects RX7 yX7_set yX7_set, Cond.code yX7_set cX7_set 4 (some .int), Cond.methodLink RX7 66 yX7_in, Cond.static yX7_in, Cond.code yX7_in cX7_in 3 (some .boolean), Cond.methodLink RL 18 yX6_at, Cond.instanceMethod yX6_at, Cond.selects RX6 yX6_at yX6_at, Cond.code yX6_at cX6_at 2 (some .int), Cond.methodLink RL 22 yX7_at, Cond.instanceMethod yX7_at]
def wsL_law_r6 : List Cond := [Cond.selects RX7 yX7_at yX7_at, Cond.code yX7_at cX7_at 2 (some .int), Cond.methodLink RL 23 yX6_empty, Cond.instanceMethod yX6_empty, Cond.selects RX6 yX6_empty yX6_empty, Cond.code yX6_empty cX6_empty 2 (some .int), Cond.methodLink RX6 66 yX3_balls, Cond.instanceMethod yX3_balls, Cond.selects RX3 yX3_balls yX3_balls, Cond.code yX3_balls cX3_balls 3 (some .int), Cond.methodLink RX6 70 yX3_clear, Cond.instanceMethod yX3_clear, Cond.selects RX3 yX3_clear yX3_clear, Cond.code yX3_clear cX3_clear 2 none, Cond.methodLink RL 27 yX7_empty, Cond.instanceMethod yX7_empty, Cond.selects RX7 yX7_empty yX7_empty, Cond.code yX7_empty cX7_empty 3 (some .int), Cond.methodLink RX7 70 yX7_balls, Cond.instanceMethod yX7_balls, Cond.selects RX7 yX7_balls yX7_balls, Cond.code yX7_balls cX7_balls 3 (some .int), Cond.methodLink RL 28 yX6_step, Cond.instanceMethod yX6_step]
def wsL_law_r7 : List Cond := [Cond.selects RX6 yX6_step yX6_step, Cond.code yX6_step cX6_step 2 (some .int), Cond.methodLink RX6 73 yX6_isRoom, Cond.static yX6_isRoom, Cond.code yX6_isRoom cX6_isRoom 1 (some .boolean), Cond.methodLink RX6 76 yX6_carry, Cond.instanceMethod yX6_carry, Cond.selects RX6 yX6_carry yX6_carry, Cond.code yX6_carry cX6_carry 3 (some .int), Cond.fieldLink RX6 134 "BallBoxes" "moves" "I", Cond.methodLink RX6 237 yX3_makeByCarrier, Cond.instanceMethod yX3_makeByCarrier, Cond.selects RX3 yX3_makeByCarrier yX3_makeByCarrier, Cond.code yX3_makeByCarrier cX3_makeByCarrier 8 (some .int), Cond.methodLink RX3 22 yX3_ballAt, Cond.static yX6_loadBehind, Cond.code yX6_loadBehind cX6_loadBehind 3 (some .int), Cond.methodLink RX3 30 yX3_makeBox, Cond.instanceMethod yX3_makeBox, Cond.selects RX3 yX3_makeBox yX3_makeBox, Cond.code yX3_makeBox cX3_makeBox 3 none, Cond.methodLink RX6 137 yX3_becomeMade, Cond.instanceMethod yX3_becomeMade, Cond.selects RX3 yX3_becomeMade yX3_becomeMade]
def wsL_law_r8 : List Cond := [Cond.code yX3_becomeMade cX3_becomeMade 3 (some .int), Cond.methodLink RL 31 yX7_step, Cond.instanceMethod yX7_step, Cond.selects RX7 yX7_step yX7_step, Cond.code yX7_step cX7_step 2 (some .int), Cond.methodLink RX7 80 yX7_goes, Cond.instanceMethod yX7_goes, Cond.selects RX7 yX7_goes yX7_goes, Cond.code yX7_goes cX7_goes 6 (some .int), Cond.methodLink RX7 77 yX7_takes, Cond.instanceMethod yX7_takes, Cond.selects RX7 yX7_takes yX7_takes, Cond.code yX7_takes cX7_takes 3 (some .int), Cond.fieldLink RX7 74 "BallBoxesModel" "done" "I", Cond.methodLink RL 32 yX6_back, Cond.instanceMethod yX6_back, Cond.selects RX6 yX6_back yX6_back, Cond.code yX6_back cX6_back 2 (some .int), Cond.methodLink RL 35 yX7_back, Cond.instanceMethod yX7_back, Cond.selects RX7 yX7_back yX7_back, Cond.code yX7_back cX7_back 2 (some .int), Cond.methodLink RL 36 yX6_kept, Cond.instanceMethod yX6_kept]
def wsL_law_r9 : List Cond := [Cond.selects RX6 yX6_kept yX6_kept, Cond.code yX6_kept cX6_kept 2 (some .int), Cond.methodLink RX6 80 yX3_takenBy, Cond.instanceMethod yX3_takenBy, Cond.selects RX3 yX3_takenBy yX3_takenBy, Cond.code yX3_takenBy cX3_takenBy 6 (some .int), Cond.methodLink RL 39 yX7_kept, Cond.instanceMethod yX7_kept, Cond.selects RX7 yX7_kept yX7_kept, Cond.code yX7_kept cX7_kept 5 (some .int), Cond.methodLink RL 40 yX6_row, Cond.instanceMethod yX6_row, Cond.selects RX6 yX6_row yX6_row, Cond.code yX6_row cX6_row 2 (some .int), Cond.methodLink RX6 83 yX3_firstBall, Cond.instanceMethod yX3_firstBall, Cond.selects RX3 yX3_firstBall yX3_firstBall, Cond.code yX3_firstBall cX3_firstBall 2 (some .int), Cond.methodLink RX6 86 yX3_lastBall, Cond.instanceMethod yX3_lastBall, Cond.selects RX3 yX3_lastBall yX3_lastBall, Cond.code yX3_lastBall cX3_lastBall 2 (some .int), Cond.methodLink RX6 89 yX0_heapsOf, Cond.instanceMethod yX0_heapsOf]
def wsL_law_r10 : List Cond := [Cond.selects RX0 yX0_heapsOf yX0_heapsOf, Cond.code yX0_heapsOf cX0_heapsOf 2 (some .int), Cond.methodLink RX0 15 yX0_begin, Cond.instanceMethod yX0_begin, Cond.selects RX0 yX0_begin yX0_begin, Cond.code yX0_begin cX0_begin 3 none, Cond.fieldLink RX0 29 "BallBoxes$Pairs" "size" "I", Cond.methodLink RX0 23 yX3_ballAt, Cond.methodLink RX0 19 yX0_takeOut, Cond.instanceMethod yX0_takeOut, Cond.selects RX0 yX0_takeOut yX0_takeOut, Cond.code yX0_takeOut cX0_takeOut 6 (some .int), Cond.methodLink RL 43 yX7_row, Cond.instanceMethod yX7_row, Cond.selects RX7 yX7_row yX7_row, Cond.code yX7_row cX7_row 5 (some .int), Cond.methodLink RX7 84 yX7_pairRounds, Cond.instanceMethod yX7_pairRounds, Cond.selects RX7 yX7_pairRounds yX7_pairRounds, Cond.code yX7_pairRounds cX7_pairRounds 6 (some .int), Cond.methodLink RL 44 yX6_heap, Cond.instanceMethod yX6_heap, Cond.selects RX6 yX6_heap yX6_heap, Cond.code yX6_heap cX6_heap 3 (some .int)]
def wsL_law_r11 : List Cond := [Cond.methodLink RX6 93 yX0_countsAbove, Cond.instanceMethod yX0_countsAbove, Cond.selects RX0 yX0_countsAbove yX0_countsAbove, Cond.code yX0_countsAbove cX0_countsAbove 5 (some .int), Cond.methodLink RL 47 yX7_heap, Cond.instanceMethod yX7_heap, Cond.selects RX7 yX7_heap yX7_heap, Cond.code yX7_heap cX7_heap 5 (some .int), Cond.methodLink RL 48 yX6_strings, Cond.instanceMethod yX6_strings, Cond.selects RX6 yX6_strings yX6_strings, Cond.code yX6_strings cX6_strings 2 (some .int), Cond.methodLink RX6 97 yX5_readFrom, Cond.instanceMethod yX5_readFrom, Cond.selects RX5 yX5_readFrom yX5_readFrom, Cond.code yX5_readFrom cX5_readFrom 4 none, Cond.fieldLink RX5 42 "BallBoxes$Strings" "boxesRead" "I", Cond.methodLink RX5 29 yX5_clear, Cond.instanceMethod yX5_clear, Cond.selects RX5 yX5_clear yX5_clear, Cond.code yX5_clear cX5_clear 2 none, Cond.fieldLink RX5 21 "BallBoxes$Strings" "size" "I", Cond.methodLink RX5 32 yX3_ballAt, Cond.methodLink RX5 38 yX5_takeBall]
def wsL_law_r12 : List Cond := [Cond.instanceMethod yX5_takeBall, Cond.selects RX5 yX5_takeBall yX5_takeBall, Cond.code yX5_takeBall cX5_takeBall 3 none, Cond.methodLink RX5 68 yX5_longestTight, Cond.instanceMethod yX5_longestTight, Cond.selects RX5 yX5_longestTight yX5_longestTight, Cond.code yX5_longestTight cX5_longestTight 4 (some .int), Cond.methodLink RX5 93 yX5_isTight, Cond.instanceMethod yX5_isTight, Cond.selects RX5 yX5_isTight yX5_isTight, Cond.code yX5_isTight cX5_isTight 3 (some .boolean), Cond.methodLink RX5 87 yX5_riggingOf, Cond.instanceMethod yX5_riggingOf, Cond.selects RX5 yX5_riggingOf yX5_riggingOf, Cond.code yX5_riggingOf cX5_riggingOf 2 (some .int), Cond.methodLink RX5 25 yX5_isString, Cond.instanceMethod yX5_isString, Cond.selects RX5 yX5_isString yX5_isString, Cond.code yX5_isString cX5_isString 2 (some .boolean), Cond.methodLink RX5 90 yX5_lengthOf, Cond.instanceMethod yX5_lengthOf, Cond.selects RX5 yX5_lengthOf yX5_lengthOf, Cond.code yX5_lengthOf cX5_lengthOf 2 (some .int), Cond.methodLink RX5 58 yX5_roomLeft]
def wsL_law_r13 : List Cond := [Cond.instanceMethod yX5_roomLeft, Cond.selects RX5 yX5_roomLeft yX5_roomLeft, Cond.code yX5_roomLeft cX5_roomLeft 3 (some .int), Cond.methodLink RX5 71 yX5_addString, Cond.instanceMethod yX5_addString, Cond.selects RX5 yX5_addString yX5_addString, Cond.code yX5_addString cX5_addString 1 (some .int), Cond.methodLink RX5 75 yX5_addToSums, Cond.instanceMethod yX5_addToSums, Cond.selects RX5 yX5_addToSums yX5_addToSums, Cond.code yX5_addToSums cX5_addToSums 4 none, Cond.methodLink RX5 84 Lib.Math.max.name, Cond.static Lib.Math.max.name, Cond.initialized "java/lang/Math", Cond.code Lib.Math.max.name Lib.Math.max.code 2 (some .int), Cond.methodLink RX6 101 yX5_sort, Cond.instanceMethod yX5_sort, Cond.selects RX5 yX5_sort yX5_sort, Cond.code yX5_sort cX5_sort 3 none, Cond.methodLink RX5 61 yX5_isBehind, Cond.instanceMethod yX5_isBehind, Cond.selects RX5 yX5_isBehind yX5_isBehind, Cond.code yX5_isBehind cX5_isBehind 3 (some .boolean), Cond.methodLink RX5 65 yX5_swap]
def wsL_law_r14 : List Cond := [Cond.instanceMethod yX5_swap, Cond.selects RX5 yX5_swap yX5_swap, Cond.code yX5_swap cX5_swap 5 none, Cond.methodLink RL 51 yX7_strings, Cond.instanceMethod yX7_strings, Cond.selects RX7 yX7_strings yX7_strings, Cond.code yX7_strings cX7_strings 4 (some .int), Cond.fieldLink RX7 87 "BallBoxesModel" "many" "I", Cond.fieldLink RX7 104 "BallBoxesModel" "told" "I", Cond.methodLink RX7 101 yX7_reads, Cond.instanceMethod yX7_reads, Cond.selects RX7 yX7_reads yX7_reads, Cond.code yX7_reads cX7_reads 4 none, Cond.methodLink RX7 94 yX7_tight, Cond.instanceMethod yX7_tight, Cond.selects RX7 yX7_tight yX7_tight, Cond.code yX7_tight cX7_tight 6 (some .int), Cond.methodLink RX7 90 yX7_room, Cond.instanceMethod yX7_room, Cond.selects RX7 yX7_room yX7_room, Cond.code yX7_room cX7_room 5 (some .int), Cond.methodLink RL 52 yX6_string, Cond.instanceMethod yX6_string, Cond.selects RX6 yX6_string yX6_string]
def wsL_law_r15 : List Cond := [Cond.code yX6_string cX6_string 3 (some .int), Cond.methodLink RX6 108 yX5_isString, Cond.methodLink RX6 111 yX5_lengthOf, Cond.methodLink RX6 114 yX5_riggingOf, Cond.methodLink RX6 120 yX5_roomLeft, Cond.methodLink RL 56 yX7_string, Cond.instanceMethod yX7_string, Cond.selects RX7 yX7_string yX7_string, Cond.code yX7_string cX7_string 3 (some .int), Cond.methodLink RL 57 yX6_leap, Cond.instanceMethod yX6_leap, Cond.selects RX6 yX6_leap yX6_leap, Cond.code yX6_leap cX6_leap 3 (some .int), Cond.methodLink RX6 124 yX5_addToRiggings, Cond.instanceMethod yX5_addToRiggings, Cond.selects RX5 yX5_addToRiggings yX5_addToRiggings, Cond.code yX5_addToRiggings cX5_addToRiggings 4 none, Cond.methodLink RX5 52 Lib.Math.min.name, Cond.static Lib.Math.min.name, Cond.code Lib.Math.min.name Lib.Math.min.code 2 (some .int), Cond.methodLink RX6 127 yX5_haveRoomBehind, Cond.instanceMethod yX5_haveRoomBehind, Cond.selects RX5 yX5_haveRoomBehind yX5_haveRoomBehind, Cond.code yX5_haveRoomBehind cX5_haveRoomBehind 3 (some .boolean)]
def wsL_law_r16 : List Cond := [Cond.methodLink RX6 130 yX5_makeInto, Cond.instanceMethod yX5_makeInto, Cond.selects RX5 yX5_makeInto yX5_makeInto, Cond.code yX5_makeInto cX5_makeInto 3 (some .boolean), Cond.methodLink RX5 45 yX5_giveBall, Cond.instanceMethod yX5_giveBall, Cond.selects RX5 yX5_giveBall yX5_giveBall, Cond.code yX5_giveBall cX5_giveBall 3 (some .int), Cond.methodLink RX5 78 yX5_shortestTight, Cond.instanceMethod yX5_shortestTight, Cond.selects RX5 yX5_shortestTight yX5_shortestTight, Cond.code yX5_shortestTight cX5_shortestTight 4 (some .int), Cond.methodLink RX5 81 yX5_removeString, Cond.instanceMethod yX5_removeString, Cond.selects RX5 yX5_removeString yX5_removeString, Cond.code yX5_removeString cX5_removeString 2 none, Cond.methodLink RX5 48 yX3_makeBox, Cond.methodLink RL 60 yX7_leap, Cond.instanceMethod yX7_leap, Cond.selects RX7 yX7_leap yX7_leap, Cond.code yX7_leap cX7_leap 5 (some .int), Cond.methodLink RX7 107 yX7_makes, Cond.instanceMethod yX7_makes, Cond.selects RX7 yX7_makes yX7_makes]
def wsL_law_r17 : List Cond := [Cond.code yX7_makes cX7_makes 3 (some .boolean), Cond.methodLink RX7 97 yX7_drops, Cond.instanceMethod yX7_drops, Cond.selects RX7 yX7_drops yX7_drops, Cond.code yX7_drops cX7_drops 2 none, Cond.methodLink RL 61 yX6_ring, Cond.instanceMethod yX6_ring, Cond.selects RX6 yX6_ring yX6_ring, Cond.code yX6_ring cX6_ring 6 (some .int), Cond.methodLink RX6 140 yX3_bits, Cond.instanceMethod yX3_bits, Cond.selects RX3 yX3_bits yX3_bits, Cond.code yX3_bits cX3_bits 6 (some .long), Cond.methodLink RX6 144 yJ13_bitCount_95d88, Cond.static yJ13_bitCount_95d88, Cond.initialized RJ13, Cond.code yJ13_bitCount_95d88 cJ13_bitCount_95d88 2 (some .int), Cond.constantLong RJ13 314 (6148914691236517205), Cond.constantLong RJ13 316 (3689348814741910323), Cond.constantLong RJ13 318 (1085102592571150095), Cond.methodLink RX6 150 yX6_isFewerThanHalf, Cond.static yX6_isFewerThanHalf, Cond.code yX6_isFewerThanHalf cX6_isFewerThanHalf 2 (some .boolean), Cond.methodLink RX6 154 yX1_become]
def wsL_law_r18 : List Cond := [Cond.instanceMethod yX1_become, Cond.selects RX1 yX1_become yX1_become, Cond.code yX1_become cX1_become 4 none, Cond.fieldLink RX1 13 "BallBoxes$Ring" "bits" "J", Cond.methodLink RL 64 yX7_ring, Cond.instanceMethod yX7_ring, Cond.selects RX7 yX7_ring yX7_ring, Cond.code yX7_ring cX7_ring 5 (some .int), Cond.methodLink RL 65 yX6_ringAt, Cond.instanceMethod yX6_ringAt, Cond.selects RX6 yX6_ringAt yX6_ringAt, Cond.code yX6_ringAt cX6_ringAt 2 (some .int), Cond.methodLink RX6 158 yX1_isRingBox, Cond.instanceMethod yX1_isRingBox, Cond.selects RX1 yX1_isRingBox yX1_isRingBox, Cond.code yX1_isRingBox cX1_isRingBox 2 (some .boolean), Cond.methodLink RX6 161 yX1_ballAt, Cond.instanceMethod yX1_ballAt, Cond.selects RX1 yX1_ballAt yX1_ballAt, Cond.code yX1_ballAt cX1_ballAt 2 (some .int), Cond.methodLink RL 68 yX7_ringAt, Cond.instanceMethod yX7_ringAt, Cond.selects RX7 yX7_ringAt yX7_ringAt, Cond.code yX7_ringAt cX7_ringAt 2 (some .int)]
def wsL_law_r19 : List Cond := [Cond.methodLink RL 69 yX6_turn, Cond.instanceMethod yX6_turn, Cond.selects RX6 yX6_turn yX6_turn, Cond.code yX6_turn cX6_turn 2 (some .int), Cond.methodLink RX6 162 yX1_turnBy, Cond.instanceMethod yX1_turnBy, Cond.selects RX1 yX1_turnBy yX1_turnBy, Cond.code yX1_turnBy cX1_turnBy 3 (some .int), Cond.fieldLink RX1 21 "BallBoxes$Ring" "carrierHas" "I", Cond.fieldLink RX1 24 "BallBoxes$Ring" "made" "J", Cond.methodLink RX1 17 yX1_goRound, Cond.instanceMethod yX1_goRound, Cond.selects RX1 yX1_goRound yX1_goRound, Cond.code yX1_goRound cX1_goRound 9 none, Cond.methodLink RX1 27 yX1_ballAt, Cond.methodLink RL 72 yX7_turn, Cond.instanceMethod yX7_turn, Cond.selects RX7 yX7_turn yX7_turn, Cond.code yX7_turn cX7_turn 2 (some .int), Cond.methodLink RX7 111 yX7_turns, Cond.instanceMethod yX7_turns, Cond.selects RX7 yX7_turns yX7_turns, Cond.code yX7_turns cX7_turns 5 (some .int), Cond.methodLink RL 73 yX6_period]
def wsL_law_r20 : List Cond := [Cond.instanceMethod yX6_period, Cond.selects RX6 yX6_period yX6_period, Cond.code yX6_period cX6_period 2 (some .int), Cond.methodLink RX6 165 yX2_periodOf, Cond.instanceMethod yX2_periodOf, Cond.selects RX2 yX2_periodOf yX2_periodOf, Cond.code yX2_periodOf cX2_periodOf 4 (some .int), Cond.methodLink RX2 30 yX1_become, Cond.methodLink RX2 34 yX1_turnBy, Cond.methodLink RL 76 yX7_period, Cond.instanceMethod yX7_period, Cond.selects RX7 yX7_period yX7_period, Cond.code yX7_period cX7_period 2 (some .int), Cond.methodLink RX7 118 yX7_periodOf, Cond.instanceMethod yX7_periodOf, Cond.selects RX7 yX7_periodOf yX7_periodOf, Cond.code yX7_periodOf cX7_periodOf 4 (some .int), Cond.methodLink RX7 115 yX7_isAsWas, Cond.instanceMethod yX7_isAsWas, Cond.selects RX7 yX7_isAsWas yX7_isAsWas, Cond.code yX7_isAsWas cX7_isAsWas 2 (some .boolean), Cond.methodLink RL 77 yX6_rings, Cond.instanceMethod yX6_rings, Cond.selects RX6 yX6_rings yX6_rings]
def wsL_law_r21 : List Cond := [Cond.code yX6_rings cX6_rings 5 (some .int), Cond.methodLink RX6 169 yX2_countAll, Cond.instanceMethod yX2_countAll, Cond.selects RX2 yX2_countAll yX2_countAll, Cond.code yX2_countAll cX2_countAll 5 (some .int), Cond.methodLink RX2 38 yJ6_bitCount_0f7a4, Cond.static yJ6_bitCount_0f7a4, Cond.initialized RJ6, Cond.code yJ6_bitCount_0f7a4 cJ6_bitCount_0f7a4 1 (some .int), Cond.constant RJ6 265 (1431655765), Cond.constant RJ6 266 (858993459), Cond.constant RJ6 267 (252645135), Cond.methodLink RX6 172 yX2_countWithPeriod, Cond.instanceMethod yX2_countWithPeriod, Cond.selects RX2 yX2_countWithPeriod yX2_countWithPeriod, Cond.code yX2_countWithPeriod cX2_countWithPeriod 8 (some .int), Cond.methodLink RX2 43 yX2_forget, Cond.instanceMethod yX2_forget, Cond.selects RX2 yX2_forget yX2_forget, Cond.code yX2_forget cX2_forget 2 none, Cond.methodLink RX2 46 yX2_isSeen, Cond.instanceMethod yX2_isSeen, Cond.selects RX2 yX2_isSeen yX2_isSeen, Cond.code yX2_isSeen cX2_isSeen 3 (some .boolean)]
def wsL_law_r22 : List Cond := [Cond.methodLink RX2 50 yX2_goThrough, Cond.instanceMethod yX2_goThrough, Cond.selects RX2 yX2_goThrough yX2_goThrough, Cond.code yX2_goThrough cX2_goThrough 5 (some .int), Cond.methodLink RX2 54 yX2_see, Cond.instanceMethod yX2_see, Cond.selects RX2 yX2_see yX2_see, Cond.code yX2_see cX2_see 3 none, Cond.methodLink RL 81 yX7_rings, Cond.instanceMethod yX7_rings, Cond.selects RX7 yX7_rings yX7_rings, Cond.code yX7_rings cX7_rings 10 (some .int), Cond.constantLong RX7 121 (2), Cond.methodLink RL 82 yX6_sheet, Cond.instanceMethod yX6_sheet, Cond.selects RX6 yX6_sheet yX6_sheet, Cond.code yX6_sheet cX6_sheet 5 (some .int), Cond.methodLink RX6 176 yX6_sheetOf, Cond.instanceMethod yX6_sheetOf, Cond.selects RX6 yX6_sheetOf yX6_sheetOf, Cond.code yX6_sheetOf cX6_sheetOf 2 (some (.object "BallBoxes$Sheet")), Cond.methodLink RX6 180 yX6_isForm, Cond.static yX6_isForm, Cond.code yX6_isForm cX6_isForm 1 (some .boolean)]
def wsL_law_r23 : List Cond := [Cond.methodLink RX6 183 yX6_find, Cond.instanceMethod yX6_find, Cond.selects RX6 yX6_find yX6_find, Cond.code yX6_find cX6_find 2 (some .int), Cond.fieldLink RX6 227 "BallBoxes" "latestFinding" "I", Cond.methodLink RX6 186 yX4_begin, Cond.instanceMethod yX4_begin, Cond.selects RX4 yX4_begin yX4_begin, Cond.code yX4_begin cX4_begin 4 none, Cond.fieldLink RX4 19 "BallBoxes$Sheet" "form" "I", Cond.fieldLink RX4 23 "BallBoxes$Sheet" "size" "I", Cond.methodLink RL 86 yX7_sheet, Cond.instanceMethod yX7_sheet, Cond.selects RX7 yX7_sheet yX7_sheet, Cond.code yX7_sheet cX7_sheet 5 (some .int), Cond.methodLink RX7 126 yX7_isSheet, Cond.static yX7_isSheet, Cond.code yX7_isSheet cX7_isSheet 1 (some .boolean), Cond.methodLink RX7 130 yX7_meets, Cond.instanceMethod yX7_meets, Cond.selects RX7 yX7_meets yX7_meets, Cond.code yX7_meets cX7_meets 2 (some .int), Cond.fieldLink RX7 123 "BallBoxesModel" "finding" "I", Cond.methodLink RL 87 yX6_lose]
def wsL_law_r24 : List Cond := [Cond.instanceMethod yX6_lose, Cond.selects RX6 yX6_lose yX6_lose, Cond.code yX6_lose cX6_lose 3 (some .int), Cond.methodLink RL 90 yX7_lose, Cond.instanceMethod yX7_lose, Cond.selects RX7 yX7_lose yX7_lose, Cond.code yX7_lose cX7_lose 2 (some .int), Cond.methodLink RL 91 yX6_put, Cond.instanceMethod yX6_put, Cond.selects RX6 yX6_put yX6_put, Cond.code yX6_put cX6_put 7 (some .int), Cond.methodLink RX6 194 yX4_findingAt, Cond.instanceMethod yX4_findingAt, Cond.selects RX4 yX4_findingAt yX4_findingAt, Cond.code yX4_findingAt cX4_findingAt 3 (some .int), Cond.methodLink RX4 26 yX4_isItem, Cond.instanceMethod yX4_isItem, Cond.selects RX4 yX4_isItem yX4_isItem, Cond.code yX4_isItem cX4_isItem 2 (some .boolean), Cond.methodLink RX6 197 yX4_place, Cond.instanceMethod yX4_place, Cond.selects RX4 yX4_place yX4_place, Cond.code yX4_place cX4_place 3 none, Cond.methodLink RX4 30 yX4_cut]
def wsL_law_r25 : List Cond := [Cond.instanceMethod yX4_cut, Cond.selects RX4 yX4_cut yX4_cut, Cond.code yX4_cut cX4_cut 2 (some .int), Cond.methodLink RL 94 yX7_put, Cond.instanceMethod yX7_put, Cond.selects RX7 yX7_put yX7_put, Cond.code yX7_put cX7_put 6 (some .int), Cond.methodLink RX7 133 yX7_lacks, Cond.instanceMethod yX7_lacks, Cond.selects RX7 yX7_lacks yX7_lacks, Cond.code yX7_lacks cX7_lacks 4 (some .int), Cond.methodLink RL 95 yX6_get, Cond.instanceMethod yX6_get, Cond.selects RX6 yX6_get yX6_get, Cond.code yX6_get cX6_get 6 (some .int), Cond.constant RX6 198 (-2147483648), Cond.methodLink RX6 199 yX4_itemAt, Cond.instanceMethod yX4_itemAt, Cond.selects RX4 yX4_itemAt yX4_itemAt, Cond.code yX4_itemAt cX4_itemAt 2 (some .int), Cond.methodLink RL 98 yX7_get, Cond.instanceMethod yX7_get, Cond.selects RX7 yX7_get yX7_get, Cond.code yX7_get cX7_get 5 (some .int)]
def wsL_law_r26 : List Cond := [Cond.constant RX7 137 (-2147483648), Cond.methodLink RL 99 yX6_copy, Cond.instanceMethod yX6_copy, Cond.selects RX6 yX6_copy yX6_copy, Cond.code yX6_copy cX6_copy 8 (some .int), Cond.methodLink RX6 212 arraycopyName, Cond.native arraycopyName, Cond.static arraycopyName, Cond.initialized "java/lang/System", Cond.methodLink RX6 205 yX4_hasItems, Cond.instanceMethod yX4_hasItems, Cond.selects RX4 yX4_hasItems yX4_hasItems, Cond.code yX4_hasItems cX4_hasItems 3 (some .boolean), Cond.methodLink RL 103 yX7_copy, Cond.instanceMethod yX7_copy, Cond.selects RX7 yX7_copy yX7_copy, Cond.code yX7_copy cX7_copy 7 (some .int), Cond.methodLink RL 104 yX6_load, Cond.instanceMethod yX6_load, Cond.selects RX6 yX6_load yX6_load, Cond.code yX6_load cX6_load 5 (some .int), Cond.methodLink RL 107 yX7_load, Cond.instanceMethod yX7_load, Cond.selects RX7 yX7_load yX7_load]
def wsL_law_r27 : List Cond := [Cond.code yX7_load cX7_load 4 (some .int), Cond.methodLink RL 108 yX6_write, Cond.instanceMethod yX6_write, Cond.selects RX6 yX6_write yX6_write, Cond.code yX6_write cX6_write 6 (some .int), Cond.methodLink RX6 218 Lib.Math.min.name, Cond.methodLink RL 111 yX7_write, Cond.instanceMethod yX7_write, Cond.selects RX7 yX7_write yX7_write, Cond.code yX7_write cX7_write 5 (some .int), Cond.methodLink RL 112 yX6_count, Cond.instanceMethod yX6_count, Cond.selects RX6 yX6_count yX6_count, Cond.code yX6_count cX6_count 2 (some .int), Cond.methodLink RL 115 yX7_count, Cond.instanceMethod yX7_count, Cond.selects RX7 yX7_count yX7_count, Cond.code yX7_count cX7_count 2 (some .int), Cond.methodLink RX7 138 yX7_ringBalls, Cond.instanceMethod yX7_ringBalls, Cond.selects RX7 yX7_ringBalls yX7_ringBalls, Cond.code yX7_ringBalls cX7_ringBalls 3 (some .int), Cond.methodLink RL 116 yX6_digest, Cond.instanceMethod yX6_digest]
def wsL_law_r28 : List Cond := [Cond.selects RX6 yX6_digest yX6_digest, Cond.code yX6_digest cX6_digest 4 (some .long), Cond.constantLong RX6 230 (17), Cond.constantLong RX6 232 (31), Cond.methodLink RX6 234 yX6_count, Cond.methodLink RL 120 yX7_digest, Cond.instanceMethod yX7_digest, Cond.selects RX7 yX7_digest yX7_digest, Cond.code yX7_digest cX7_digest 4 (some .long), Cond.constantLong RX7 141 (17), Cond.constantLong RX7 143 (31), Cond.methodLink RX7 145 yX7_count]
def wsL_law : List Cond := (wsL_law_r1 ++ (wsL_law_r2 ++ (wsL_law_r3 ++ (wsL_law_r4 ++ (wsL_law_r5 ++ (wsL_law_r6 ++ (wsL_law_r7 ++ (wsL_law_r8 ++ (wsL_law_r9 ++ (wsL_law_r10 ++ (wsL_law_r11 ++ (wsL_law_r12 ++ (wsL_law_r13 ++ (wsL_law_r14 ++ (wsL_law_r15 ++ (wsL_law_r16 ++ (wsL_law_r17 ++ (wsL_law_r18 ++ (wsL_law_r19 ++ (wsL_law_r20 ++ (wsL_law_r21 ++ (wsL_law_r22 ++ (wsL_law_r23 ++ (wsL_law_r24 ++ (wsL_law_r25 ++ (wsL_law_r26 ++ (wsL_law_r27 ++ wsL_law_r28))))))))))))))))))))))))))) ++ wsX60 ++ wsX70 ++ wsX30 ++ wsX00 ++ wsX50 ++ wsX10 ++ wsX20 ++ wsX40 ++ ([] : List Cond)
theorem inlX0 : ∀ w ∈ wsX00, w ∈ wsL_law := fun _ h => List.mem_append_left _ (List.mem_append_left _ (List.mem_append_left _ (List.mem_append_left _ (List.mem_append_left _ (List.mem_append_right _ h)))))
theorem inlX1 : ∀ w ∈ wsX10, w ∈ wsL_law := fun _ h => List.mem_append_left _ (List.mem_append_left _ (List.mem_append_left _ (List.mem_append_right _ h)))
theorem inlX2 : ∀ w ∈ wsX20, w ∈ wsL_law := fun _ h => List.mem_append_left _ (List.mem_append_left _ (List.mem_append_right _ h))
theorem inlX3 : ∀ w ∈ wsX30, w ∈ wsL_law := fun _ h => List.mem_append_left _ (List.mem_append_left _ (List.mem_append_left _ (List.mem_append_left _ (List.mem_append_left _ (List.mem_append_left _ (List.mem_append_right _ h))))))
theorem inlX4 : ∀ w ∈ wsX40, w ∈ wsL_law := fun _ h => List.mem_append_left _ (List.mem_append_right _ h)
theorem inlX5 : ∀ w ∈ wsX50, w ∈ wsL_law := fun _ h => List.mem_append_left _ (List.mem_append_left _ (List.mem_append_left _ (List.mem_append_left _ (List.mem_append_right _ h))))
theorem inlX6 : ∀ w ∈ wsX60, w ∈ wsL_law := fun _ h => List.mem_append_left _ (List.mem_append_left _ (List.mem_append_left _ (List.mem_append_left _ (List.mem_append_left _ (List.mem_append_left _ (List.mem_append_left _ (List.mem_append_left _ (List.mem_append_right _ h))))))))
theorem inlX7 : ∀ w ∈ wsX70, w ∈ wsL_law := fun _ h => List.mem_append_left _ (List.mem_append_left _ (List.mem_append_left _ (List.mem_append_left _ (List.mem_append_left _ (List.mem_append_left _ (List.mem_append_left _ (List.mem_append_right _ h)))))))
theorem inJ6 : ∀ w ∈ wsJ60, w ∈ lw_tbl := by decide +kernel
theorem inJ13 : ∀ w ∈ wsJ130, w ∈ lw_tbl := by decide +kernel
theorem inJ9 : ∀ w ∈ wsJ90, w ∈ lw_tbl := by decide +kernel
theorem inJ10 : ∀ w ∈ wsJ100, w ∈ lw_tbl := by decide +kernel
set_option maxRecDepth 20000 in
theorem ggL_law_X6_init : GoodIn wsL_law wsX6_init := goodIn_r _ [8, 9, 10, 11, 12, 13, 14, 15, 16, 17, 18, 19, 20, 21, 22, 23, 24, 25, 26, 27, 28, 29, 30, 31, 32, 33, 34, 35, 36, 37, 38, 39, 40, 41, 42, 43, 44, 45, 46, 47, 48, 49, 50, 51, 52, 53, 54, 55, 56, 57, 58, 59, 60, 61, 62, 63, 64, 65, 66, 67, 68, 691, 692, 660, 661, 662, 663, 664, 665, 666, 667, 668, 693, 694, 695, 696, 697, 698, 699, 700, 701, 702, 703, 704, 705, 706, 707, 708, 709] (by decide +kernel) (by decide +kernel)
set_option maxRecDepth 20000 in
theorem gL_law_X6_init : GoodIn wsL_law (wsX6_init) := ggL_law_X6_init
set_option maxRecDepth 20000 in
theorem ggL_law_X7_init : GoodIn wsL_law wsX7_init := goodIn_r _ [71, 72, 10, 11, 73, 74, 75, 76, 40, 77, 78, 79, 80, 81, 82, 83, 84, 85, 86, 87, 88, 89, 90, 91, 669, 670, 671, 672, 673, 674, 675, 676, 677, 678, 679, 680, 681, 682, 683, 684, 685, 686, 687, 688, 689, 690] (by decide +kernel) (by decide +kernel)
set_option maxRecDepth 20000 in
theorem gL_law_X7_init : GoodIn wsL_law (wsX7_init) := ggL_law_X7_init
set_option maxRecDepth 20000 in
theorem ggL_law_X6_set : GoodIn wsL_law wsX6_set := goodIn_r _ [95, 15, 96, 97, 2, 98, 99, 100, 101, 14, 102, 41, 103, 104, 105, 106, 660, 661, 662, 663, 664, 665, 666, 667, 668, 691, 692] (by decide +kernel) (by decide +kernel)
set_option maxRecDepth 20000 in
theorem gL_law_X6_set : GoodIn wsL_law (wsV RL 13 RX6 yX6_set wsX6_set) := goodIn_app (goodIn_of _ (by decide +kernel)) ggL_law_X6_set
set_option maxRecDepth 20000 in
theorem ggL_law_X7_set : GoodIn wsL_law wsX7_set := goodIn_r _ [110, 74, 111, 112, 5, 113, 669, 670, 671, 672, 673, 674, 675, 676, 677, 678, 679, 680, 681, 682, 683, 684, 685, 686, 687, 688, 689, 690] (by decide +kernel) (by decide +kernel)
set_option maxRecDepth 20000 in
theorem gL_law_X7_set : GoodIn wsL_law (wsV RL 17 RX7 yX7_set wsX7_set) := goodIn_app (goodIn_of _ (by decide +kernel)) ggL_law_X7_set
set_option maxRecDepth 20000 in
theorem ggL_law_X6_at : GoodIn wsL_law wsX6_at := goodIn_r _ [117, 15, 96, 97, 2, 98, 99, 100, 101, 14, 102, 41, 660, 661, 662, 663, 664, 665, 666, 667, 668, 691, 692] (by decide +kernel) (by decide +kernel)
set_option maxRecDepth 20000 in
theorem gL_law_X6_at : GoodIn wsL_law (wsV RL 18 RX6 yX6_at wsX6_at) := goodIn_app (goodIn_of _ (by decide +kernel)) ggL_law_X6_at
set_option maxRecDepth 20000 in
theorem ggL_law_X7_at : GoodIn wsL_law wsX7_at := goodIn_r _ [121, 74, 111, 112, 5, 113, 669, 670, 671, 672, 673, 674, 675, 676, 677, 678, 679, 680, 681, 682, 683, 684, 685, 686, 687, 688, 689, 690] (by decide +kernel) (by decide +kernel)
set_option maxRecDepth 20000 in
theorem gL_law_X7_at : GoodIn wsL_law (wsV RL 22 RX7 yX7_at wsX7_at) := goodIn_app (goodIn_of _ (by decide +kernel)) ggL_law_X7_at
set_option maxRecDepth 20000 in
theorem ggL_law_X6_empty : GoodIn wsL_law wsX6_empty := goodIn_r _ [125, 15, 126, 127, 128, 14, 129, 41, 130, 131, 132, 133, 660, 661, 662, 663, 664, 665, 666, 667, 668, 691, 692] (by decide +kernel) (by decide +kernel)
set_option maxRecDepth 20000 in
theorem gL_law_X6_empty : GoodIn wsL_law (wsV RL 23 RX6 yX6_empty wsX6_empty) := goodIn_app (goodIn_of _ (by decide +kernel)) ggL_law_X6_empty
set_option maxRecDepth 20000 in
theorem ggL_law_X7_empty : GoodIn wsL_law wsX7_empty := goodIn_r _ [137, 74, 138, 139, 140, 5, 141, 669, 670, 671, 672, 673, 674, 675, 676, 677, 678, 679, 680, 681, 682, 683, 684, 685, 686, 687, 688, 689, 690] (by decide +kernel) (by decide +kernel)
set_option maxRecDepth 20000 in
theorem gL_law_X7_empty : GoodIn wsL_law (wsV RL 27 RX7 yX7_empty wsX7_empty) := goodIn_app (goodIn_of _ (by decide +kernel)) ggL_law_X7_empty
set_option maxRecDepth 20000 in
theorem ggL_law_X6_step : GoodIn wsL_law wsX6_step := goodIn_r _ [145, 146, 147, 2, 148, 149, 150, 151, 152, 15, 153, 154, 155, 156, 14, 157, 158, 100, 101, 102, 41, 97, 98, 159, 160, 161, 162, 163, 164, 42, 165, 166, 167, 168, 660, 661, 662, 663, 664, 665, 666, 667, 668, 691, 692] (by decide +kernel) (by decide +kernel)
set_option maxRecDepth 20000 in
theorem gL_law_X6_step : GoodIn wsL_law (wsV RL 28 RX6 yX6_step wsX6_step) := goodIn_app (goodIn_of _ (by decide +kernel)) ggL_law_X6_step
set_option maxRecDepth 20000 in
theorem ggL_law_X7_step : GoodIn wsL_law wsX7_step := goodIn_r _ [172, 173, 174, 175, 5, 176, 75, 74, 111, 112, 113, 177, 178, 179, 180, 181, 669, 670, 671, 672, 673, 674, 675, 676, 677, 678, 679, 680, 681, 682, 683, 684, 685, 686, 687, 688, 689, 690] (by decide +kernel) (by decide +kernel)
set_option maxRecDepth 20000 in
theorem gL_law_X7_step : GoodIn wsL_law (wsV RL 31 RX7 yX7_step wsX7_step) := goodIn_app (goodIn_of _ (by decide +kernel)) ggL_law_X7_step
set_option maxRecDepth 20000 in
theorem ggL_law_X6_back : GoodIn wsL_law wsX6_back := goodIn_r _ [185, 146, 147, 2, 148, 149, 150, 151, 152, 15, 153, 154, 155, 156, 14, 157, 158, 100, 101, 102, 41, 97, 98, 159, 160, 161, 162, 163, 164, 42, 165, 166, 167, 168, 660, 661, 662, 663, 664, 665, 666, 667, 668, 691, 692] (by decide +kernel) (by decide +kernel)
set_option maxRecDepth 20000 in
theorem gL_law_X6_back : GoodIn wsL_law (wsV RL 32 RX6 yX6_back wsX6_back) := goodIn_app (goodIn_of _ (by decide +kernel)) ggL_law_X6_back
set_option maxRecDepth 20000 in
theorem ggL_law_X7_back : GoodIn wsL_law wsX7_back := goodIn_r _ [189, 173, 174, 175, 5, 176, 75, 74, 111, 112, 113, 177, 178, 179, 180, 181, 669, 670, 671, 672, 673, 674, 675, 676, 677, 678, 679, 680, 681, 682, 683, 684, 685, 686, 687, 688, 689, 690] (by decide +kernel) (by decide +kernel)
set_option maxRecDepth 20000 in
theorem gL_law_X7_back : GoodIn wsL_law (wsV RL 35 RX7 yX7_back wsX7_back) := goodIn_app (goodIn_of _ (by decide +kernel)) ggL_law_X7_back
set_option maxRecDepth 20000 in
theorem ggL_law_X6_kept : GoodIn wsL_law wsX6_kept := goodIn_r _ [193, 15, 146, 147, 2, 148, 194, 195, 196, 14, 197, 41, 159, 160, 660, 661, 662, 663, 664, 665, 666, 667, 668, 691, 692] (by decide +kernel) (by decide +kernel)
set_option maxRecDepth 20000 in
theorem gL_law_X6_kept : GoodIn wsL_law (wsV RL 36 RX6 yX6_kept wsX6_kept) := goodIn_app (goodIn_of _ (by decide +kernel)) ggL_law_X6_kept
set_option maxRecDepth 20000 in
theorem ggL_law_X7_kept : GoodIn wsL_law wsX7_kept := goodIn_r _ [201, 74, 111, 112, 5, 113, 669, 670, 671, 672, 673, 674, 675, 676, 677, 678, 679, 680, 681, 682, 683, 684, 685, 686, 687, 688, 689, 690] (by decide +kernel) (by decide +kernel)
set_option maxRecDepth 20000 in
theorem gL_law_X7_kept : GoodIn wsL_law (wsV RL 39 RX7 yX7_kept wsX7_kept) := goodIn_app (goodIn_of _ (by decide +kernel)) ggL_law_X7_kept
set_option maxRecDepth 20000 in
theorem ggL_law_X6_row : GoodIn wsL_law wsX6_row := goodIn_r _ [205, 15, 19, 126, 127, 128, 14, 129, 41, 206, 207, 208, 209, 210, 211, 212, 213, 214, 215, 216, 18, 217, 218, 219, 220, 221, 46, 222, 223, 100, 101, 102, 97, 2, 98, 224, 225, 226, 227, 660, 661, 662, 663, 664, 665, 666, 667, 668, 691, 692, 693, 694] (by decide +kernel) (by decide +kernel)
set_option maxRecDepth 20000 in
theorem gL_law_X6_row : GoodIn wsL_law (wsV RL 40 RX6 yX6_row wsX6_row) := goodIn_app (goodIn_of _ (by decide +kernel)) ggL_law_X6_row
set_option maxRecDepth 20000 in
theorem ggL_law_X7_row : GoodIn wsL_law wsX7_row := goodIn_r _ [231, 74, 77, 138, 139, 140, 5, 141, 232, 233, 234, 235, 76, 669, 670, 671, 672, 673, 674, 675, 676, 677, 678, 679, 680, 681, 682, 683, 684, 685, 686, 687, 688, 689, 690] (by decide +kernel) (by decide +kernel)
set_option maxRecDepth 20000 in
theorem gL_law_X7_row : GoodIn wsL_law (wsV RL 43 RX7 yX7_row wsX7_row) := goodIn_app (goodIn_of _ (by decide +kernel)) ggL_law_X7_row
set_option maxRecDepth 20000 in
theorem ggL_law_X6_heap : GoodIn wsL_law wsX6_heap := goodIn_r _ [239, 19, 15, 240, 241, 242, 18, 243, 218, 219, 220, 221, 46, 222, 223, 100, 101, 14, 102, 41, 97, 2, 98, 224, 225, 226, 227, 660, 661, 662, 663, 664, 665, 666, 667, 668, 693, 694, 691, 692] (by decide +kernel) (by decide +kernel)
set_option maxRecDepth 20000 in
theorem gL_law_X6_heap : GoodIn wsL_law (wsV RL 44 RX6 yX6_heap wsX6_heap) := goodIn_app (goodIn_of _ (by decide +kernel)) ggL_law_X6_heap
set_option maxRecDepth 20000 in
theorem ggL_law_X7_heap : GoodIn wsL_law wsX7_heap := goodIn_r _ [247, 77, 232, 233, 234, 5, 235, 76, 74, 138, 139, 140, 141, 111, 112, 113, 669, 670, 671, 672, 673, 674, 675, 676, 677, 678, 679, 680, 681, 682, 683, 684, 685, 686, 687, 688, 689, 690] (by decide +kernel) (by decide +kernel)
set_option maxRecDepth 20000 in
theorem gL_law_X7_heap : GoodIn wsL_law (wsV RL 47 RX7 yX7_heap wsX7_heap) := goodIn_app (goodIn_of _ (by decide +kernel)) ggL_law_X7_heap
set_option maxRecDepth 20000 in
theorem ggL_law_X6_strings : GoodIn wsL_law wsX6_strings := goodIn_r _ [251, 23, 15, 252, 253, 254, 22, 255, 256, 257, 258, 259, 260, 261, 52, 262, 100, 101, 14, 102, 41, 97, 2, 98, 263, 264, 265, 266, 50, 51, 267, 268, 269, 270, 271, 272, 273, 274, 275, 276, 277, 278, 279, 280, 281, 282, 283, 284, 285, 286, 287, 288, 289, 290, 291, 292, 293, 294, 295, 296, 297, 298, 299, 300, 301, 302, 303, 304, 305, 306, 307, 308, 309, 310, 311, 312, 313, 314, 660, 661, 662, 663, 664, 665, 666, 667, 668, 695, 696, 697, 698, 699, 691, 692] (by decide +kernel) (by decide +kernel)
set_option maxRecDepth 20000 in
theorem gL_law_X6_strings : GoodIn wsL_law (wsV RL 48 RX6 yX6_strings wsX6_strings) := goodIn_app (goodIn_of _ (by decide +kernel)) ggL_law_X6_strings
set_option maxRecDepth 20000 in
theorem ggL_law_X7_strings : GoodIn wsL_law wsX7_strings := goodIn_r _ [318, 319, 320, 80, 78, 81, 79, 82, 111, 112, 5, 113, 321, 322, 323, 324, 74, 325, 326, 327, 328, 329, 330, 331, 332, 669, 670, 671, 672, 673, 674, 675, 676, 677, 678, 679, 680, 681, 682, 683, 684, 685, 686, 687, 688, 689, 690] (by decide +kernel) (by decide +kernel)
set_option maxRecDepth 20000 in
theorem gL_law_X7_strings : GoodIn wsL_law (wsV RL 51 RX7 yX7_strings wsX7_strings) := goodIn_app (goodIn_of _ (by decide +kernel)) ggL_law_X7_strings
set_option maxRecDepth 20000 in
theorem ggL_law_X6_string : GoodIn wsL_law wsX6_string := goodIn_r _ [336, 23, 337, 280, 281, 22, 282, 261, 338, 284, 285, 286, 50, 279, 339, 276, 277, 278, 51, 340, 288, 289, 290, 52, 660, 661, 662, 663, 664, 665, 666, 667, 668, 695, 696, 697, 698, 699] (by decide +kernel) (by decide +kernel)
set_option maxRecDepth 20000 in
theorem gL_law_X6_string : GoodIn wsL_law (wsV RL 52 RX6 yX6_string wsX6_string) := goodIn_app (goodIn_of _ (by decide +kernel)) ggL_law_X6_string
set_option maxRecDepth 20000 in
theorem ggL_law_X7_string : GoodIn wsL_law wsX7_string := goodIn_r _ [344, 320, 80, 81, 82, 111, 112, 5, 113, 669, 670, 671, 672, 673, 674, 675, 676, 677, 678, 679, 680, 681, 682, 683, 684, 685, 686, 687, 688, 689, 690] (by decide +kernel) (by decide +kernel)
set_option maxRecDepth 20000 in
theorem gL_law_X7_string : GoodIn wsL_law (wsV RL 56 RX7 yX7_string wsX7_string) := goodIn_app (goodIn_of _ (by decide +kernel)) ggL_law_X7_string
set_option maxRecDepth 20000 in
theorem ggL_law_X6_leap : GoodIn wsL_law wsX6_leap := goodIn_r _ [348, 24, 15, 153, 146, 147, 2, 148, 252, 253, 254, 22, 255, 256, 257, 258, 259, 260, 261, 52, 262, 100, 101, 14, 102, 41, 97, 98, 263, 264, 265, 266, 50, 51, 267, 268, 269, 270, 271, 272, 273, 274, 275, 276, 277, 278, 279, 280, 281, 282, 283, 284, 285, 286, 287, 288, 289, 290, 291, 292, 293, 294, 295, 296, 297, 298, 299, 300, 301, 302, 349, 350, 351, 352, 353, 354, 355, 356, 357, 358, 359, 360, 361, 362, 363, 364, 365, 366, 367, 368, 369, 370, 371, 372, 373, 374, 375, 311, 312, 313, 314, 376, 162, 163, 164, 42, 165, 166, 167, 168, 660, 661, 662, 663, 664, 665, 666, 667, 668, 695, 696, 697, 698, 699, 691, 692] (by decide +kernel) (by decide +kernel)
set_option maxRecDepth 20000 in
theorem gL_law_X6_leap : GoodIn wsL_law (wsV RL 57 RX6 yX6_leap wsX6_leap) := goodIn_app (goodIn_of _ (by decide +kernel)) ggL_law_X6_leap
set_option maxRecDepth 20000 in
theorem ggL_law_X7_leap : GoodIn wsL_law wsX7_leap := goodIn_r _ [380, 319, 79, 78, 111, 112, 5, 113, 321, 322, 323, 324, 74, 325, 326, 327, 328, 329, 330, 331, 332, 381, 382, 383, 384, 75, 385, 386, 387, 388, 177, 178, 179, 180, 181, 669, 670, 671, 672, 673, 674, 675, 676, 677, 678, 679, 680, 681, 682, 683, 684, 685, 686, 687, 688, 689, 690] (by decide +kernel) (by decide +kernel)
set_option maxRecDepth 20000 in
theorem gL_law_X7_leap : GoodIn wsL_law (wsV RL 60 RX7 yX7_leap wsX7_leap) := goodIn_app (goodIn_of _ (by decide +kernel)) ggL_law_X7_leap
set_option maxRecDepth 20000 in
theorem ggL_law_X6_ring : GoodIn wsL_law wsX6_ring := goodIn_r _ [392, 15, 28, 96, 97, 2, 98, 393, 394, 395, 14, 396, 158, 100, 101, 102, 41, 397, 398, 399, 400, 401, 402, 403, 404, 405, 406, 407, 408, 409, 27, 410, 56, 411, 660, 661, 662, 663, 664, 665, 666, 667, 668, 691, 692, 700, 701, 702, 703] (by decide +kernel) (by decide +kernel)
set_option maxRecDepth 20000 in
theorem gL_law_X6_ring : GoodIn wsL_law (wsV RL 61 RX6 yX6_ring wsX6_ring) := goodIn_app (goodIn_of _ (by decide +kernel)) ggL_law_X6_ring
set_option maxRecDepth 20000 in
theorem ggL_law_X7_ring : GoodIn wsL_law wsX7_ring := goodIn_r _ [415, 74, 83, 84, 111, 112, 5, 113, 669, 670, 671, 672, 673, 674, 675, 676, 677, 678, 679, 680, 681, 682, 683, 684, 685, 686, 687, 688, 689, 690] (by decide +kernel) (by decide +kernel)
set_option maxRecDepth 20000 in
theorem gL_law_X7_ring : GoodIn wsL_law (wsV RL 64 RX7 yX7_ring wsX7_ring) := goodIn_app (goodIn_of _ (by decide +kernel)) ggL_law_X7_ring
set_option maxRecDepth 20000 in
theorem ggL_law_X6_ringAt : GoodIn wsL_law wsX6_ringAt := goodIn_r _ [419, 28, 420, 421, 422, 27, 423, 56, 424, 425, 426, 427, 411, 660, 661, 662, 663, 664, 665, 666, 667, 668, 700, 701, 702, 703] (by decide +kernel) (by decide +kernel)
set_option maxRecDepth 20000 in
theorem gL_law_X6_ringAt : GoodIn wsL_law (wsV RL 65 RX6 yX6_ringAt wsX6_ringAt) := goodIn_app (goodIn_of _ (by decide +kernel)) ggL_law_X6_ringAt
set_option maxRecDepth 20000 in
theorem ggL_law_X7_ringAt : GoodIn wsL_law wsX7_ringAt := goodIn_r _ [431, 83, 84, 111, 112, 5, 113, 669, 670, 671, 672, 673, 674, 675, 676, 677, 678, 679, 680, 681, 682, 683, 684, 685, 686, 687, 688, 689, 690] (by decide +kernel) (by decide +kernel)
set_option maxRecDepth 20000 in
theorem gL_law_X7_ringAt : GoodIn wsL_law (wsV RL 68 RX7 yX7_ringAt wsX7_ringAt) := goodIn_app (goodIn_of _ (by decide +kernel)) ggL_law_X7_ringAt
set_option maxRecDepth 20000 in
theorem ggL_law_X6_turn : GoodIn wsL_law wsX6_turn := goodIn_r _ [435, 28, 146, 147, 2, 148, 436, 437, 438, 27, 439, 440, 441, 411, 442, 443, 444, 445, 56, 446, 425, 426, 427, 159, 160, 660, 661, 662, 663, 664, 665, 666, 667, 668, 700, 701, 702, 703] (by decide +kernel) (by decide +kernel)
set_option maxRecDepth 20000 in
theorem gL_law_X6_turn : GoodIn wsL_law (wsV RL 69 RX6 yX6_turn wsX6_turn) := goodIn_app (goodIn_of _ (by decide +kernel)) ggL_law_X6_turn
set_option maxRecDepth 20000 in
theorem ggL_law_X7_turn : GoodIn wsL_law wsX7_turn := goodIn_r _ [450, 111, 112, 5, 113, 451, 452, 453, 454, 83, 84, 669, 670, 671, 672, 673, 674, 675, 676, 677, 678, 679, 680, 681, 682, 683, 684, 685, 686, 687, 688, 689, 690] (by decide +kernel) (by decide +kernel)
set_option maxRecDepth 20000 in
theorem gL_law_X7_turn : GoodIn wsL_law (wsV RL 72 RX7 yX7_turn wsX7_turn) := goodIn_app (goodIn_of _ (by decide +kernel)) ggL_law_X7_turn
set_option maxRecDepth 20000 in
theorem ggL_law_X6_period : GoodIn wsL_law wsX6_period := goodIn_r _ [458, 32, 28, 146, 147, 2, 148, 459, 460, 461, 31, 462, 61, 463, 408, 409, 27, 410, 56, 411, 464, 437, 438, 439, 440, 441, 442, 443, 444, 445, 446, 425, 426, 427, 159, 160, 660, 661, 662, 663, 664, 665, 666, 667, 668, 704, 705, 700, 701, 702, 703] (by decide +kernel) (by decide +kernel)
set_option maxRecDepth 20000 in
theorem gL_law_X6_period : GoodIn wsL_law (wsV RL 73 RX6 yX6_period wsX6_period) := goodIn_app (goodIn_of _ (by decide +kernel)) ggL_law_X6_period
set_option maxRecDepth 20000 in
theorem ggL_law_X7_period : GoodIn wsL_law wsX7_period := goodIn_r _ [468, 111, 112, 5, 113, 469, 470, 471, 472, 83, 85, 84, 451, 452, 453, 454, 473, 474, 475, 476, 669, 670, 671, 672, 673, 674, 675, 676, 677, 678, 679, 680, 681, 682, 683, 684, 685, 686, 687, 688, 689, 690] (by decide +kernel) (by decide +kernel)
set_option maxRecDepth 20000 in
theorem gL_law_X7_period : GoodIn wsL_law (wsV RL 76 RX7 yX7_period wsX7_period) := goodIn_app (goodIn_of _ (by decide +kernel)) ggL_law_X7_period
set_option maxRecDepth 20000 in
theorem ggL_law_X6_rings : GoodIn wsL_law wsX6_rings := goodIn_r _ [480, 32, 404, 405, 2, 406, 146, 147, 148, 481, 482, 483, 31, 484, 485, 486, 487, 488, 489, 490, 491, 492, 493, 494, 495, 496, 497, 498, 499, 63, 500, 501, 502, 503, 504, 505, 506, 507, 61, 463, 408, 409, 27, 410, 56, 411, 464, 437, 438, 439, 440, 441, 442, 443, 444, 445, 446, 425, 426, 427, 159, 160, 508, 509, 510, 511, 660, 661, 662, 663, 664, 665, 666, 667, 668, 704, 705, 700, 701, 702, 703] (by decide +kernel) (by decide +kernel)
set_option maxRecDepth 20000 in
theorem gL_law_X6_rings : GoodIn wsL_law (wsV RL 77 RX6 yX6_rings wsX6_rings) := goodIn_app (goodIn_of _ (by decide +kernel)) ggL_law_X6_rings
set_option maxRecDepth 20000 in
theorem ggL_law_X7_rings : GoodIn wsL_law wsX7_rings := goodIn_r _ [515, 516, 83, 86, 84, 111, 112, 5, 113, 469, 470, 471, 472, 85, 451, 452, 453, 454, 473, 474, 475, 476, 669, 670, 671, 672, 673, 674, 675, 676, 677, 678, 679, 680, 681, 682, 683, 684, 685, 686, 687, 688, 689, 690] (by decide +kernel) (by decide +kernel)
set_option maxRecDepth 20000 in
theorem gL_law_X7_rings : GoodIn wsL_law (wsV RL 81 RX7 yX7_rings wsX7_rings) := goodIn_app (goodIn_of _ (by decide +kernel)) ggL_law_X7_rings
set_option maxRecDepth 20000 in
theorem ggL_law_X6_sheet : GoodIn wsL_law wsX6_sheet := goodIn_r _ [520, 521, 522, 523, 2, 524, 34, 525, 526, 527, 528, 529, 530, 531, 532, 533, 534, 535, 36, 536, 68, 537, 538, 67, 660, 661, 662, 663, 664, 665, 666, 667, 668, 706, 707, 708, 709] (by decide +kernel) (by decide +kernel)
set_option maxRecDepth 20000 in
theorem gL_law_X6_sheet : GoodIn wsL_law (wsV RL 82 RX6 yX6_sheet wsX6_sheet) := goodIn_app (goodIn_of _ (by decide +kernel)) ggL_law_X6_sheet
set_option maxRecDepth 20000 in
theorem ggL_law_X7_sheet : GoodIn wsL_law wsX7_sheet := goodIn_r _ [542, 87, 88, 89, 90, 543, 544, 5, 545, 111, 112, 113, 546, 547, 548, 549, 550, 669, 670, 671, 672, 673, 674, 675, 676, 677, 678, 679, 680, 681, 682, 683, 684, 685, 686, 687, 688, 689, 690] (by decide +kernel) (by decide +kernel)
set_option maxRecDepth 20000 in
theorem gL_law_X7_sheet : GoodIn wsL_law (wsV RL 86 RX7 yX7_sheet wsX7_sheet) := goodIn_app (goodIn_of _ (by decide +kernel)) ggL_law_X7_sheet
set_option maxRecDepth 20000 in
theorem ggL_law_X6_lose : GoodIn wsL_law wsX6_lose := goodIn_r _ [554, 521, 522, 523, 2, 524, 34, 528, 529, 530, 531, 532, 706, 707, 708, 709, 660, 661, 662, 663, 664, 665, 666, 667, 668] (by decide +kernel) (by decide +kernel)
set_option maxRecDepth 20000 in
theorem gL_law_X6_lose : GoodIn wsL_law (wsV RL 87 RX6 yX6_lose wsX6_lose) := goodIn_app (goodIn_of _ (by decide +kernel)) ggL_law_X6_lose
set_option maxRecDepth 20000 in
theorem ggL_law_X7_lose : GoodIn wsL_law wsX7_lose := goodIn_r _ [558, 87, 89, 543, 544, 5, 545, 111, 112, 113, 546, 547, 548, 549, 550, 669, 670, 671, 672, 673, 674, 675, 676, 677, 678, 679, 680, 681, 682, 683, 684, 685, 686, 687, 688, 689, 690] (by decide +kernel) (by decide +kernel)
set_option maxRecDepth 20000 in
theorem gL_law_X7_lose : GoodIn wsL_law (wsV RL 90 RX7 yX7_lose wsX7_lose) := goodIn_app (goodIn_of _ (by decide +kernel)) ggL_law_X7_lose
set_option maxRecDepth 20000 in
theorem ggL_law_X6_put : GoodIn wsL_law wsX6_put := goodIn_r _ [562, 521, 522, 523, 2, 524, 34, 525, 526, 527, 563, 564, 565, 36, 566, 68, 537, 567, 568, 569, 570, 538, 528, 529, 530, 531, 532, 571, 572, 573, 574, 67, 575, 576, 577, 578, 660, 661, 662, 663, 664, 665, 666, 667, 668, 706, 707, 708, 709] (by decide +kernel) (by decide +kernel)
set_option maxRecDepth 20000 in
theorem gL_law_X6_put : GoodIn wsL_law (wsV RL 91 RX6 yX6_put wsX6_put) := goodIn_app (goodIn_of _ (by decide +kernel)) ggL_law_X6_put
set_option maxRecDepth 20000 in
theorem ggL_law_X7_put : GoodIn wsL_law wsX7_put := goodIn_r _ [582, 90, 543, 544, 5, 545, 111, 112, 113, 583, 584, 585, 586, 87, 88, 89, 546, 547, 548, 549, 550, 669, 670, 671, 672, 673, 674, 675, 676, 677, 678, 679, 680, 681, 682, 683, 684, 685, 686, 687, 688, 689, 690] (by decide +kernel) (by decide +kernel)
set_option maxRecDepth 20000 in
theorem gL_law_X7_put : GoodIn wsL_law (wsV RL 94 RX7 yX7_put wsX7_put) := goodIn_app (goodIn_of _ (by decide +kernel)) ggL_law_X7_put
set_option maxRecDepth 20000 in
theorem ggL_law_X6_get : GoodIn wsL_law wsX6_get := goodIn_r _ [590, 591, 521, 522, 523, 2, 524, 34, 525, 526, 527, 563, 564, 565, 36, 566, 68, 537, 567, 568, 569, 570, 538, 528, 529, 530, 531, 532, 592, 593, 594, 595, 67, 660, 661, 662, 663, 664, 665, 666, 667, 668, 706, 707, 708, 709] (by decide +kernel) (by decide +kernel)
set_option maxRecDepth 20000 in
theorem gL_law_X6_get : GoodIn wsL_law (wsV RL 95 RX6 yX6_get wsX6_get) := goodIn_app (goodIn_of _ (by decide +kernel)) ggL_law_X6_get
set_option maxRecDepth 20000 in
theorem ggL_law_X7_get : GoodIn wsL_law wsX7_get := goodIn_r _ [599, 600, 550, 90, 543, 544, 5, 545, 111, 112, 113, 583, 584, 585, 586, 87, 88, 89, 669, 670, 671, 672, 673, 674, 675, 676, 677, 678, 679, 680, 681, 682, 683, 684, 685, 686, 687, 688, 689, 690] (by decide +kernel) (by decide +kernel)
set_option maxRecDepth 20000 in
theorem gL_law_X7_get : GoodIn wsL_law (wsV RL 98 RX7 yX7_get wsX7_get) := goodIn_app (goodIn_of _ (by decide +kernel)) ggL_law_X7_get
set_option maxRecDepth 20000 in
theorem ggL_law_X6_copy : GoodIn wsL_law wsX6_copy := goodIn_r _ [604, 605, 606, 607, 608, 521, 522, 523, 2, 524, 34, 528, 529, 530, 531, 532, 609, 610, 611, 36, 612, 538, 706, 707, 708, 709, 660, 661, 662, 663, 664, 665, 666, 667, 668] (by decide +kernel) (by decide +kernel)
set_option maxRecDepth 20000 in
theorem gL_law_X6_copy : GoodIn wsL_law (wsV RL 99 RX6 yX6_copy wsX6_copy) := goodIn_app (goodIn_of _ (by decide +kernel)) ggL_law_X6_copy
set_option maxRecDepth 20000 in
theorem ggL_law_X7_copy : GoodIn wsL_law wsX7_copy := goodIn_r _ [616, 87, 88, 89, 91, 90, 543, 544, 5, 545, 111, 112, 113, 546, 547, 548, 549, 550, 669, 670, 671, 672, 673, 674, 675, 676, 677, 678, 679, 680, 681, 682, 683, 684, 685, 686, 687, 688, 689, 690] (by decide +kernel) (by decide +kernel)
set_option maxRecDepth 20000 in
theorem gL_law_X7_copy : GoodIn wsL_law (wsV RL 103 RX7 yX7_copy wsX7_copy) := goodIn_app (goodIn_of _ (by decide +kernel)) ggL_law_X7_copy
set_option maxRecDepth 20000 in
theorem ggL_law_X6_load : GoodIn wsL_law wsX6_load := goodIn_r _ [620, 15, 521, 522, 523, 2, 524, 34, 96, 97, 98, 528, 529, 530, 531, 532, 592, 593, 594, 36, 595, 67, 567, 568, 569, 570, 538, 103, 104, 105, 14, 106, 41, 706, 707, 708, 709, 660, 661, 662, 663, 664, 665, 666, 667, 668, 691, 692] (by decide +kernel) (by decide +kernel)
set_option maxRecDepth 20000 in
theorem gL_law_X6_load : GoodIn wsL_law (wsV RL 104 RX6 yX6_load wsX6_load) := goodIn_app (goodIn_of _ (by decide +kernel)) ggL_law_X6_load
set_option maxRecDepth 20000 in
theorem ggL_law_X7_load : GoodIn wsL_law wsX7_load := goodIn_r _ [624, 87, 89, 74, 90, 543, 544, 5, 545, 111, 112, 113, 546, 547, 548, 549, 550, 669, 670, 671, 672, 673, 674, 675, 676, 677, 678, 679, 680, 681, 682, 683, 684, 685, 686, 687, 688, 689, 690] (by decide +kernel) (by decide +kernel)
set_option maxRecDepth 20000 in
theorem gL_law_X7_load : GoodIn wsL_law (wsV RL 107 RX7 yX7_load wsX7_load) := goodIn_app (goodIn_of _ (by decide +kernel)) ggL_law_X7_load
set_option maxRecDepth 20000 in
theorem ggL_law_X6_write : GoodIn wsL_law wsX6_write := goodIn_r _ [628, 629, 354, 301, 355, 15, 521, 522, 523, 2, 524, 34, 96, 97, 98, 528, 529, 530, 531, 532, 99, 100, 101, 14, 102, 41, 571, 572, 573, 36, 574, 67, 567, 568, 569, 570, 538, 575, 576, 577, 578, 537, 706, 707, 708, 709, 660, 661, 662, 663, 664, 665, 666, 667, 668, 691, 692] (by decide +kernel) (by decide +kernel)
set_option maxRecDepth 20000 in
theorem gL_law_X6_write : GoodIn wsL_law (wsV RL 108 RX6 yX6_write wsX6_write) := goodIn_app (goodIn_of _ (by decide +kernel)) ggL_law_X6_write
set_option maxRecDepth 20000 in
theorem ggL_law_X7_write : GoodIn wsL_law wsX7_write := goodIn_r _ [633, 87, 89, 90, 74, 543, 544, 5, 545, 111, 112, 113, 546, 547, 548, 549, 550, 669, 670, 671, 672, 673, 674, 675, 676, 677, 678, 679, 680, 681, 682, 683, 684, 685, 686, 687, 688, 689, 690] (by decide +kernel) (by decide +kernel)
set_option maxRecDepth 20000 in
theorem gL_law_X7_write : GoodIn wsL_law (wsV RL 111 RX7 yX7_write wsX7_write) := goodIn_app (goodIn_of _ (by decide +kernel)) ggL_law_X7_write
set_option maxRecDepth 20000 in
theorem ggL_law_X6_count : GoodIn wsL_law wsX6_count := goodIn_r _ [637, 15, 28, 23, 153, 532, 126, 127, 128, 14, 129, 41, 397, 398, 399, 400, 401, 402, 403, 660, 661, 662, 663, 664, 665, 666, 667, 668, 700, 701, 702, 703, 695, 696, 697, 698, 699, 691, 692] (by decide +kernel) (by decide +kernel)
set_option maxRecDepth 20000 in
theorem gL_law_X6_count : GoodIn wsL_law (wsV RL 112 RX6 yX6_count wsX6_count) := goodIn_app (goodIn_of _ (by decide +kernel)) ggL_law_X6_count
set_option maxRecDepth 20000 in
theorem ggL_law_X7_count : GoodIn wsL_law wsX7_count := goodIn_r _ [641, 83, 320, 181, 550, 138, 139, 140, 5, 141, 74, 642, 643, 644, 645, 84, 669, 670, 671, 672, 673, 674, 675, 676, 677, 678, 679, 680, 681, 682, 683, 684, 685, 686, 687, 688, 689, 690] (by decide +kernel) (by decide +kernel)
set_option maxRecDepth 20000 in
theorem gL_law_X7_count : GoodIn wsL_law (wsV RL 115 RX7 yX7_count wsX7_count) := goodIn_app (goodIn_of _ (by decide +kernel)) ggL_law_X7_count
set_option maxRecDepth 20000 in
theorem ggL_law_X6_digest : GoodIn wsL_law wsX6_digest := goodIn_r _ [649, 650, 651, 15, 28, 652, 635, 636, 2, 637, 23, 153, 532, 126, 127, 128, 14, 129, 41, 397, 398, 399, 400, 401, 402, 403, 99, 100, 101, 102, 97, 98, 424, 425, 426, 27, 427, 411, 660, 661, 662, 663, 664, 665, 666, 667, 668, 700, 701, 702, 703, 695, 696, 697, 698, 699, 691, 692] (by decide +kernel) (by decide +kernel)
set_option maxRecDepth 20000 in
theorem gL_law_X6_digest : GoodIn wsL_law (wsV RL 116 RX6 yX6_digest wsX6_digest) := goodIn_app (goodIn_of _ (by decide +kernel)) ggL_law_X6_digest
set_option maxRecDepth 20000 in
theorem ggL_law_X7_digest : GoodIn wsL_law wsX7_digest := goodIn_r _ [656, 657, 658, 74, 83, 84, 659, 639, 640, 5, 641, 320, 181, 550, 138, 139, 140, 141, 642, 643, 644, 645, 669, 670, 671, 672, 673, 674, 675, 676, 677, 678, 679, 680, 681, 682, 683, 684, 685, 686, 687, 688, 689, 690] (by decide +kernel) (by decide +kernel)
set_option maxRecDepth 20000 in
theorem gL_law_X7_digest : GoodIn wsL_law (wsV RL 120 RX7 yX7_digest wsX7_digest) := goodIn_app (goodIn_of _ (by decide +kernel)) ggL_law_X7_digest
theorem dL_law_0 : decode cL_law 0 = .ok (.new 7, 3) := by decide +kernel
theorem dL_law_3 : decode cL_law 3 = .ok (.dup, 1) := by decide +kernel
theorem dL_law_4 : decode cL_law 4 = .ok (.invokespecial 9, 3) := by decide +kernel
theorem dL_law_7 : decode cL_law 7 = .ok (.astore_n 1, 1) := by decide +kernel
theorem dL_law_8 : decode cL_law 8 = .ok (.new 10, 3) := by decide +kernel
theorem dL_law_11 : decode cL_law 11 = .ok (.dup, 1) := by decide +kernel
theorem dL_law_12 : decode cL_law 12 = .ok (.invokespecial 12, 3) := by decide +kernel
theorem dL_law_15 : decode cL_law 15 = .ok (.astore_n 2, 1) := by decide +kernel
theorem dL_law_16 : decode cL_law 16 = .ok (.iconst 0, 1) := by decide +kernel
theorem dL_law_17 : decode cL_law 17 = .ok (.istore_n 3, 1) := by decide +kernel
theorem dL_law_18 : decode cL_law 18 = .ok (.iload_n 3, 1) := by decide +kernel
theorem dL_law_19 : decode cL_law 19 = .ok (.aload_n 0, 1) := by decide +kernel
theorem dL_law_20 : decode cL_law 20 = .ok (.arraylength, 1) := by decide +kernel
theorem dL_law_21 : decode cL_law 21 = .ok (.bipush 6, 2) := by decide +kernel
theorem dL_law_23 : decode cL_law 23 = .ok (.isub, 1) := by decide +kernel
theorem dL_law_24 : decode cL_law 24 = .ok (.if_icmp .gt 902, 3) := by decide +kernel
theorem dL_law_27 : decode cL_law 27 = .ok (.aload_n 0, 1) := by decide +kernel
theorem dL_law_28 : decode cL_law 28 = .ok (.iload_n 3, 1) := by decide +kernel
theorem dL_law_29 : decode cL_law 29 = .ok (.iaload, 1) := by decide +kernel
theorem dL_law_30 : decode cL_law 30 = .ok (.bipush 31, 2) := by decide +kernel
theorem dL_law_32 : decode cL_law 32 = .ok (.iand, 1) := by decide +kernel
theorem dL_law_33 : decode cL_law 33 = .ok (.tableswitch 887 0 24 #[115, 164, 187, 200, 223, 246, 269, 292, 315, 338, 371, 404, 437, 460, 483, 506, 559, 602, 625, 678, 721, 784, 817, 850, 873], 115) := by decide +kernel
theorem dL_law_148 : decode cL_law 148 = .ok (.aload_n 1, 1) := by decide +kernel
theorem dL_law_149 : decode cL_law 149 = .ok (.aload_n 0, 1) := by decide +kernel
theorem dL_law_150 : decode cL_law 150 = .ok (.iload_n 3, 1) := by decide +kernel
theorem dL_law_151 : decode cL_law 151 = .ok (.iconst 1, 1) := by decide +kernel
theorem dL_law_152 : decode cL_law 152 = .ok (.iadd, 1) := by decide +kernel
theorem dL_law_153 : decode cL_law 153 = .ok (.iaload, 1) := by decide +kernel
theorem dL_law_154 : decode cL_law 154 = .ok (.aload_n 0, 1) := by decide +kernel
theorem dL_law_155 : decode cL_law 155 = .ok (.iload_n 3, 1) := by decide +kernel
theorem dL_law_156 : decode cL_law 156 = .ok (.iconst 2, 1) := by decide +kernel
theorem dL_law_157 : decode cL_law 157 = .ok (.iadd, 1) := by decide +kernel
theorem dL_law_158 : decode cL_law 158 = .ok (.iaload, 1) := by decide +kernel
theorem dL_law_159 : decode cL_law 159 = .ok (.ifCond .eq 7, 3) := by decide +kernel
theorem dL_law_162 : decode cL_law 162 = .ok (.iconst 1, 1) := by decide +kernel
theorem dL_law_163 : decode cL_law 163 = .ok (.goto 4, 3) := by decide +kernel
theorem dL_law_166 : decode cL_law 166 = .ok (.iconst 0, 1) := by decide +kernel
theorem dL_law_167 : decode cL_law 167 = .ok (.invokevirtual 13, 3) := by decide +kernel
theorem dL_law_170 : decode cL_law 170 = .ok (.aload_n 2, 1) := by decide +kernel
theorem dL_law_171 : decode cL_law 171 = .ok (.aload_n 0, 1) := by decide +kernel
theorem dL_law_172 : decode cL_law 172 = .ok (.iload_n 3, 1) := by decide +kernel
theorem dL_law_173 : decode cL_law 173 = .ok (.iconst 1, 1) := by decide +kernel
theorem dL_law_174 : decode cL_law 174 = .ok (.iadd, 1) := by decide +kernel
theorem dL_law_175 : decode cL_law 175 = .ok (.iaload, 1) := by decide +kernel
theorem dL_law_176 : decode cL_law 176 = .ok (.aload_n 0, 1) := by decide +kernel
theorem dL_law_177 : decode cL_law 177 = .ok (.iload_n 3, 1) := by decide +kernel
theorem dL_law_178 : decode cL_law 178 = .ok (.iconst 2, 1) := by decide +kernel
theorem dL_law_179 : decode cL_law 179 = .ok (.iadd, 1) := by decide +kernel
theorem dL_law_180 : decode cL_law 180 = .ok (.iaload, 1) := by decide +kernel
theorem dL_law_181 : decode cL_law 181 = .ok (.ifCond .eq 7, 3) := by decide +kernel
theorem dL_law_184 : decode cL_law 184 = .ok (.iconst 1, 1) := by decide +kernel
theorem dL_law_185 : decode cL_law 185 = .ok (.goto 4, 3) := by decide +kernel
theorem dL_law_188 : decode cL_law 188 = .ok (.iconst 0, 1) := by decide +kernel
theorem dL_law_189 : decode cL_law 189 = .ok (.invokevirtual 17, 3) := by decide +kernel
theorem dL_law_192 : decode cL_law 192 = .ok (.if_icmp .eq 728, 3) := by decide +kernel
theorem dL_law_195 : decode cL_law 195 = .ok (.iconst 0, 1) := by decide +kernel
theorem dL_law_196 : decode cL_law 196 = .ok (.ireturn, 1) := by decide +kernel
theorem dL_law_197 : decode cL_law 197 = .ok (.aload_n 1, 1) := by decide +kernel
theorem dL_law_198 : decode cL_law 198 = .ok (.aload_n 0, 1) := by decide +kernel
theorem dL_law_199 : decode cL_law 199 = .ok (.iload_n 3, 1) := by decide +kernel
theorem dL_law_200 : decode cL_law 200 = .ok (.iconst 1, 1) := by decide +kernel
theorem dL_law_201 : decode cL_law 201 = .ok (.iadd, 1) := by decide +kernel
theorem dL_law_202 : decode cL_law 202 = .ok (.iaload, 1) := by decide +kernel
theorem dL_law_203 : decode cL_law 203 = .ok (.invokevirtual 18, 3) := by decide +kernel
theorem dL_law_206 : decode cL_law 206 = .ok (.aload_n 2, 1) := by decide +kernel
theorem dL_law_207 : decode cL_law 207 = .ok (.aload_n 0, 1) := by decide +kernel
theorem dL_law_208 : decode cL_law 208 = .ok (.iload_n 3, 1) := by decide +kernel
theorem dL_law_209 : decode cL_law 209 = .ok (.iconst 1, 1) := by decide +kernel
theorem dL_law_210 : decode cL_law 210 = .ok (.iadd, 1) := by decide +kernel
theorem dL_law_211 : decode cL_law 211 = .ok (.iaload, 1) := by decide +kernel
theorem dL_law_212 : decode cL_law 212 = .ok (.invokevirtual 22, 3) := by decide +kernel
theorem dL_law_215 : decode cL_law 215 = .ok (.if_icmp .eq 705, 3) := by decide +kernel
theorem dL_law_218 : decode cL_law 218 = .ok (.iconst 0, 1) := by decide +kernel
theorem dL_law_219 : decode cL_law 219 = .ok (.ireturn, 1) := by decide +kernel
theorem dL_law_220 : decode cL_law 220 = .ok (.aload_n 1, 1) := by decide +kernel
theorem dL_law_221 : decode cL_law 221 = .ok (.invokevirtual 23, 3) := by decide +kernel
theorem dL_law_224 : decode cL_law 224 = .ok (.aload_n 2, 1) := by decide +kernel
theorem dL_law_225 : decode cL_law 225 = .ok (.invokevirtual 27, 3) := by decide +kernel
theorem dL_law_228 : decode cL_law 228 = .ok (.if_icmp .eq 692, 3) := by decide +kernel
theorem dL_law_231 : decode cL_law 231 = .ok (.iconst 0, 1) := by decide +kernel
theorem dL_law_232 : decode cL_law 232 = .ok (.ireturn, 1) := by decide +kernel
theorem dL_law_233 : decode cL_law 233 = .ok (.aload_n 1, 1) := by decide +kernel
theorem dL_law_234 : decode cL_law 234 = .ok (.aload_n 0, 1) := by decide +kernel
theorem dL_law_235 : decode cL_law 235 = .ok (.iload_n 3, 1) := by decide +kernel
theorem dL_law_236 : decode cL_law 236 = .ok (.iconst 1, 1) := by decide +kernel
theorem dL_law_237 : decode cL_law 237 = .ok (.iadd, 1) := by decide +kernel
theorem dL_law_238 : decode cL_law 238 = .ok (.iaload, 1) := by decide +kernel
theorem dL_law_239 : decode cL_law 239 = .ok (.invokevirtual 28, 3) := by decide +kernel
theorem dL_law_242 : decode cL_law 242 = .ok (.aload_n 2, 1) := by decide +kernel
theorem dL_law_243 : decode cL_law 243 = .ok (.aload_n 0, 1) := by decide +kernel
theorem dL_law_244 : decode cL_law 244 = .ok (.iload_n 3, 1) := by decide +kernel
theorem dL_law_245 : decode cL_law 245 = .ok (.iconst 1, 1) := by decide +kernel
theorem dL_law_246 : decode cL_law 246 = .ok (.iadd, 1) := by decide +kernel
theorem dL_law_247 : decode cL_law 247 = .ok (.iaload, 1) := by decide +kernel
theorem dL_law_248 : decode cL_law 248 = .ok (.invokevirtual 31, 3) := by decide +kernel
theorem dL_law_251 : decode cL_law 251 = .ok (.if_icmp .eq 669, 3) := by decide +kernel
theorem dL_law_254 : decode cL_law 254 = .ok (.iconst 0, 1) := by decide +kernel
theorem dL_law_255 : decode cL_law 255 = .ok (.ireturn, 1) := by decide +kernel
theorem dL_law_256 : decode cL_law 256 = .ok (.aload_n 1, 1) := by decide +kernel
theorem dL_law_257 : decode cL_law 257 = .ok (.aload_n 0, 1) := by decide +kernel
theorem dL_law_258 : decode cL_law 258 = .ok (.iload_n 3, 1) := by decide +kernel
theorem dL_law_259 : decode cL_law 259 = .ok (.iconst 1, 1) := by decide +kernel
theorem dL_law_260 : decode cL_law 260 = .ok (.iadd, 1) := by decide +kernel
theorem dL_law_261 : decode cL_law 261 = .ok (.iaload, 1) := by decide +kernel
theorem dL_law_262 : decode cL_law 262 = .ok (.invokevirtual 32, 3) := by decide +kernel
theorem dL_law_265 : decode cL_law 265 = .ok (.aload_n 2, 1) := by decide +kernel
theorem dL_law_266 : decode cL_law 266 = .ok (.aload_n 0, 1) := by decide +kernel
theorem dL_law_267 : decode cL_law 267 = .ok (.iload_n 3, 1) := by decide +kernel
theorem dL_law_268 : decode cL_law 268 = .ok (.iconst 1, 1) := by decide +kernel
theorem dL_law_269 : decode cL_law 269 = .ok (.iadd, 1) := by decide +kernel
theorem dL_law_270 : decode cL_law 270 = .ok (.iaload, 1) := by decide +kernel
theorem dL_law_271 : decode cL_law 271 = .ok (.invokevirtual 35, 3) := by decide +kernel
theorem dL_law_274 : decode cL_law 274 = .ok (.if_icmp .eq 646, 3) := by decide +kernel
theorem dL_law_277 : decode cL_law 277 = .ok (.iconst 0, 1) := by decide +kernel
theorem dL_law_278 : decode cL_law 278 = .ok (.ireturn, 1) := by decide +kernel
theorem dL_law_279 : decode cL_law 279 = .ok (.aload_n 1, 1) := by decide +kernel
theorem dL_law_280 : decode cL_law 280 = .ok (.aload_n 0, 1) := by decide +kernel
theorem dL_law_281 : decode cL_law 281 = .ok (.iload_n 3, 1) := by decide +kernel
theorem dL_law_282 : decode cL_law 282 = .ok (.iconst 1, 1) := by decide +kernel
theorem dL_law_283 : decode cL_law 283 = .ok (.iadd, 1) := by decide +kernel
theorem dL_law_284 : decode cL_law 284 = .ok (.iaload, 1) := by decide +kernel
theorem dL_law_285 : decode cL_law 285 = .ok (.invokevirtual 36, 3) := by decide +kernel
theorem dL_law_288 : decode cL_law 288 = .ok (.aload_n 2, 1) := by decide +kernel
theorem dL_law_289 : decode cL_law 289 = .ok (.aload_n 0, 1) := by decide +kernel
theorem dL_law_290 : decode cL_law 290 = .ok (.iload_n 3, 1) := by decide +kernel
theorem dL_law_291 : decode cL_law 291 = .ok (.iconst 1, 1) := by decide +kernel
theorem dL_law_292 : decode cL_law 292 = .ok (.iadd, 1) := by decide +kernel
theorem dL_law_293 : decode cL_law 293 = .ok (.iaload, 1) := by decide +kernel
theorem dL_law_294 : decode cL_law 294 = .ok (.invokevirtual 39, 3) := by decide +kernel
theorem dL_law_297 : decode cL_law 297 = .ok (.if_icmp .eq 623, 3) := by decide +kernel
theorem dL_law_300 : decode cL_law 300 = .ok (.iconst 0, 1) := by decide +kernel
theorem dL_law_301 : decode cL_law 301 = .ok (.ireturn, 1) := by decide +kernel
theorem dL_law_302 : decode cL_law 302 = .ok (.aload_n 1, 1) := by decide +kernel
theorem dL_law_303 : decode cL_law 303 = .ok (.aload_n 0, 1) := by decide +kernel
theorem dL_law_304 : decode cL_law 304 = .ok (.iload_n 3, 1) := by decide +kernel
theorem dL_law_305 : decode cL_law 305 = .ok (.iconst 1, 1) := by decide +kernel
theorem dL_law_306 : decode cL_law 306 = .ok (.iadd, 1) := by decide +kernel
theorem dL_law_307 : decode cL_law 307 = .ok (.iaload, 1) := by decide +kernel
theorem dL_law_308 : decode cL_law 308 = .ok (.invokevirtual 40, 3) := by decide +kernel
theorem dL_law_311 : decode cL_law 311 = .ok (.aload_n 2, 1) := by decide +kernel
theorem dL_law_312 : decode cL_law 312 = .ok (.aload_n 0, 1) := by decide +kernel
theorem dL_law_313 : decode cL_law 313 = .ok (.iload_n 3, 1) := by decide +kernel
theorem dL_law_314 : decode cL_law 314 = .ok (.iconst 1, 1) := by decide +kernel
theorem dL_law_315 : decode cL_law 315 = .ok (.iadd, 1) := by decide +kernel
theorem dL_law_316 : decode cL_law 316 = .ok (.iaload, 1) := by decide +kernel
theorem dL_law_317 : decode cL_law 317 = .ok (.invokevirtual 43, 3) := by decide +kernel
theorem dL_law_320 : decode cL_law 320 = .ok (.if_icmp .eq 600, 3) := by decide +kernel
theorem dL_law_323 : decode cL_law 323 = .ok (.iconst 0, 1) := by decide +kernel
theorem dL_law_324 : decode cL_law 324 = .ok (.ireturn, 1) := by decide +kernel
theorem dL_law_325 : decode cL_law 325 = .ok (.aload_n 1, 1) := by decide +kernel
theorem dL_law_326 : decode cL_law 326 = .ok (.aload_n 0, 1) := by decide +kernel
theorem dL_law_327 : decode cL_law 327 = .ok (.iload_n 3, 1) := by decide +kernel
theorem dL_law_328 : decode cL_law 328 = .ok (.iconst 1, 1) := by decide +kernel
theorem dL_law_329 : decode cL_law 329 = .ok (.iadd, 1) := by decide +kernel
theorem dL_law_330 : decode cL_law 330 = .ok (.iaload, 1) := by decide +kernel
theorem dL_law_331 : decode cL_law 331 = .ok (.invokevirtual 44, 3) := by decide +kernel
theorem dL_law_334 : decode cL_law 334 = .ok (.aload_n 2, 1) := by decide +kernel
theorem dL_law_335 : decode cL_law 335 = .ok (.aload_n 0, 1) := by decide +kernel
theorem dL_law_336 : decode cL_law 336 = .ok (.iload_n 3, 1) := by decide +kernel
theorem dL_law_337 : decode cL_law 337 = .ok (.iconst 1, 1) := by decide +kernel
theorem dL_law_338 : decode cL_law 338 = .ok (.iadd, 1) := by decide +kernel
theorem dL_law_339 : decode cL_law 339 = .ok (.iaload, 1) := by decide +kernel
theorem dL_law_340 : decode cL_law 340 = .ok (.invokevirtual 47, 3) := by decide +kernel
theorem dL_law_343 : decode cL_law 343 = .ok (.if_icmp .eq 577, 3) := by decide +kernel
theorem dL_law_346 : decode cL_law 346 = .ok (.iconst 0, 1) := by decide +kernel
theorem dL_law_347 : decode cL_law 347 = .ok (.ireturn, 1) := by decide +kernel
theorem dL_law_348 : decode cL_law 348 = .ok (.aload_n 1, 1) := by decide +kernel
theorem dL_law_349 : decode cL_law 349 = .ok (.aload_n 0, 1) := by decide +kernel
theorem dL_law_350 : decode cL_law 350 = .ok (.iload_n 3, 1) := by decide +kernel
theorem dL_law_351 : decode cL_law 351 = .ok (.iconst 1, 1) := by decide +kernel
theorem dL_law_352 : decode cL_law 352 = .ok (.iadd, 1) := by decide +kernel
theorem dL_law_353 : decode cL_law 353 = .ok (.iaload, 1) := by decide +kernel
theorem dL_law_354 : decode cL_law 354 = .ok (.invokevirtual 48, 3) := by decide +kernel
theorem dL_law_357 : decode cL_law 357 = .ok (.aload_n 2, 1) := by decide +kernel
theorem dL_law_358 : decode cL_law 358 = .ok (.aload_n 0, 1) := by decide +kernel
theorem dL_law_359 : decode cL_law 359 = .ok (.iload_n 3, 1) := by decide +kernel
theorem dL_law_360 : decode cL_law 360 = .ok (.iconst 1, 1) := by decide +kernel
theorem dL_law_361 : decode cL_law 361 = .ok (.iadd, 1) := by decide +kernel
theorem dL_law_362 : decode cL_law 362 = .ok (.iaload, 1) := by decide +kernel
theorem dL_law_363 : decode cL_law 363 = .ok (.invokevirtual 51, 3) := by decide +kernel
theorem dL_law_366 : decode cL_law 366 = .ok (.if_icmp .eq 554, 3) := by decide +kernel
theorem dL_law_369 : decode cL_law 369 = .ok (.iconst 0, 1) := by decide +kernel
theorem dL_law_370 : decode cL_law 370 = .ok (.ireturn, 1) := by decide +kernel
theorem dL_law_371 : decode cL_law 371 = .ok (.aload_n 1, 1) := by decide +kernel
theorem dL_law_372 : decode cL_law 372 = .ok (.aload_n 0, 1) := by decide +kernel
theorem dL_law_373 : decode cL_law 373 = .ok (.iload_n 3, 1) := by decide +kernel
theorem dL_law_374 : decode cL_law 374 = .ok (.iconst 1, 1) := by decide +kernel
theorem dL_law_375 : decode cL_law 375 = .ok (.iadd, 1) := by decide +kernel
theorem dL_law_376 : decode cL_law 376 = .ok (.iaload, 1) := by decide +kernel
theorem dL_law_377 : decode cL_law 377 = .ok (.aload_n 0, 1) := by decide +kernel
theorem dL_law_378 : decode cL_law 378 = .ok (.iload_n 3, 1) := by decide +kernel
theorem dL_law_379 : decode cL_law 379 = .ok (.iconst 2, 1) := by decide +kernel
theorem dL_law_380 : decode cL_law 380 = .ok (.iadd, 1) := by decide +kernel
theorem dL_law_381 : decode cL_law 381 = .ok (.iaload, 1) := by decide +kernel
theorem dL_law_382 : decode cL_law 382 = .ok (.invokevirtual 52, 3) := by decide +kernel
theorem dL_law_385 : decode cL_law 385 = .ok (.aload_n 2, 1) := by decide +kernel
theorem dL_law_386 : decode cL_law 386 = .ok (.aload_n 0, 1) := by decide +kernel
theorem dL_law_387 : decode cL_law 387 = .ok (.iload_n 3, 1) := by decide +kernel
theorem dL_law_388 : decode cL_law 388 = .ok (.iconst 1, 1) := by decide +kernel
theorem dL_law_389 : decode cL_law 389 = .ok (.iadd, 1) := by decide +kernel
theorem dL_law_390 : decode cL_law 390 = .ok (.iaload, 1) := by decide +kernel
theorem dL_law_391 : decode cL_law 391 = .ok (.aload_n 0, 1) := by decide +kernel
theorem dL_law_392 : decode cL_law 392 = .ok (.iload_n 3, 1) := by decide +kernel
theorem dL_law_393 : decode cL_law 393 = .ok (.iconst 2, 1) := by decide +kernel
theorem dL_law_394 : decode cL_law 394 = .ok (.iadd, 1) := by decide +kernel
theorem dL_law_395 : decode cL_law 395 = .ok (.iaload, 1) := by decide +kernel
theorem dL_law_396 : decode cL_law 396 = .ok (.invokevirtual 56, 3) := by decide +kernel
theorem dL_law_399 : decode cL_law 399 = .ok (.if_icmp .eq 521, 3) := by decide +kernel
theorem dL_law_402 : decode cL_law 402 = .ok (.iconst 0, 1) := by decide +kernel
theorem dL_law_403 : decode cL_law 403 = .ok (.ireturn, 1) := by decide +kernel
theorem dL_law_404 : decode cL_law 404 = .ok (.aload_n 1, 1) := by decide +kernel
theorem dL_law_405 : decode cL_law 405 = .ok (.aload_n 0, 1) := by decide +kernel
theorem dL_law_406 : decode cL_law 406 = .ok (.iload_n 3, 1) := by decide +kernel
theorem dL_law_407 : decode cL_law 407 = .ok (.iconst 1, 1) := by decide +kernel
theorem dL_law_408 : decode cL_law 408 = .ok (.iadd, 1) := by decide +kernel
theorem dL_law_409 : decode cL_law 409 = .ok (.iaload, 1) := by decide +kernel
theorem dL_law_410 : decode cL_law 410 = .ok (.aload_n 0, 1) := by decide +kernel
theorem dL_law_411 : decode cL_law 411 = .ok (.iload_n 3, 1) := by decide +kernel
theorem dL_law_412 : decode cL_law 412 = .ok (.iconst 2, 1) := by decide +kernel
theorem dL_law_413 : decode cL_law 413 = .ok (.iadd, 1) := by decide +kernel
theorem dL_law_414 : decode cL_law 414 = .ok (.iaload, 1) := by decide +kernel
theorem dL_law_415 : decode cL_law 415 = .ok (.invokevirtual 57, 3) := by decide +kernel
theorem dL_law_418 : decode cL_law 418 = .ok (.aload_n 2, 1) := by decide +kernel
theorem dL_law_419 : decode cL_law 419 = .ok (.aload_n 0, 1) := by decide +kernel
theorem dL_law_420 : decode cL_law 420 = .ok (.iload_n 3, 1) := by decide +kernel
theorem dL_law_421 : decode cL_law 421 = .ok (.iconst 1, 1) := by decide +kernel
theorem dL_law_422 : decode cL_law 422 = .ok (.iadd, 1) := by decide +kernel
theorem dL_law_423 : decode cL_law 423 = .ok (.iaload, 1) := by decide +kernel
theorem dL_law_424 : decode cL_law 424 = .ok (.aload_n 0, 1) := by decide +kernel
theorem dL_law_425 : decode cL_law 425 = .ok (.iload_n 3, 1) := by decide +kernel
theorem dL_law_426 : decode cL_law 426 = .ok (.iconst 2, 1) := by decide +kernel
theorem dL_law_427 : decode cL_law 427 = .ok (.iadd, 1) := by decide +kernel
theorem dL_law_428 : decode cL_law 428 = .ok (.iaload, 1) := by decide +kernel
theorem dL_law_429 : decode cL_law 429 = .ok (.invokevirtual 60, 3) := by decide +kernel
theorem dL_law_432 : decode cL_law 432 = .ok (.if_icmp .eq 488, 3) := by decide +kernel
theorem dL_law_435 : decode cL_law 435 = .ok (.iconst 0, 1) := by decide +kernel
theorem dL_law_436 : decode cL_law 436 = .ok (.ireturn, 1) := by decide +kernel
theorem dL_law_437 : decode cL_law 437 = .ok (.aload_n 1, 1) := by decide +kernel
theorem dL_law_438 : decode cL_law 438 = .ok (.aload_n 0, 1) := by decide +kernel
theorem dL_law_439 : decode cL_law 439 = .ok (.iload_n 3, 1) := by decide +kernel
theorem dL_law_440 : decode cL_law 440 = .ok (.iconst 1, 1) := by decide +kernel
theorem dL_law_441 : decode cL_law 441 = .ok (.iadd, 1) := by decide +kernel
theorem dL_law_442 : decode cL_law 442 = .ok (.iaload, 1) := by decide +kernel
theorem dL_law_443 : decode cL_law 443 = .ok (.aload_n 0, 1) := by decide +kernel
theorem dL_law_444 : decode cL_law 444 = .ok (.iload_n 3, 1) := by decide +kernel
theorem dL_law_445 : decode cL_law 445 = .ok (.iconst 2, 1) := by decide +kernel
theorem dL_law_446 : decode cL_law 446 = .ok (.iadd, 1) := by decide +kernel
theorem dL_law_447 : decode cL_law 447 = .ok (.iaload, 1) := by decide +kernel
theorem dL_law_448 : decode cL_law 448 = .ok (.invokevirtual 61, 3) := by decide +kernel
theorem dL_law_451 : decode cL_law 451 = .ok (.aload_n 2, 1) := by decide +kernel
theorem dL_law_452 : decode cL_law 452 = .ok (.aload_n 0, 1) := by decide +kernel
theorem dL_law_453 : decode cL_law 453 = .ok (.iload_n 3, 1) := by decide +kernel
theorem dL_law_454 : decode cL_law 454 = .ok (.iconst 1, 1) := by decide +kernel
theorem dL_law_455 : decode cL_law 455 = .ok (.iadd, 1) := by decide +kernel
theorem dL_law_456 : decode cL_law 456 = .ok (.iaload, 1) := by decide +kernel
theorem dL_law_457 : decode cL_law 457 = .ok (.aload_n 0, 1) := by decide +kernel
theorem dL_law_458 : decode cL_law 458 = .ok (.iload_n 3, 1) := by decide +kernel
theorem dL_law_459 : decode cL_law 459 = .ok (.iconst 2, 1) := by decide +kernel
theorem dL_law_460 : decode cL_law 460 = .ok (.iadd, 1) := by decide +kernel
theorem dL_law_461 : decode cL_law 461 = .ok (.iaload, 1) := by decide +kernel
theorem dL_law_462 : decode cL_law 462 = .ok (.invokevirtual 64, 3) := by decide +kernel
theorem dL_law_465 : decode cL_law 465 = .ok (.if_icmp .eq 455, 3) := by decide +kernel
theorem dL_law_468 : decode cL_law 468 = .ok (.iconst 0, 1) := by decide +kernel
theorem dL_law_469 : decode cL_law 469 = .ok (.ireturn, 1) := by decide +kernel
theorem dL_law_470 : decode cL_law 470 = .ok (.aload_n 1, 1) := by decide +kernel
theorem dL_law_471 : decode cL_law 471 = .ok (.aload_n 0, 1) := by decide +kernel
theorem dL_law_472 : decode cL_law 472 = .ok (.iload_n 3, 1) := by decide +kernel
theorem dL_law_473 : decode cL_law 473 = .ok (.iconst 1, 1) := by decide +kernel
theorem dL_law_474 : decode cL_law 474 = .ok (.iadd, 1) := by decide +kernel
theorem dL_law_475 : decode cL_law 475 = .ok (.iaload, 1) := by decide +kernel
theorem dL_law_476 : decode cL_law 476 = .ok (.invokevirtual 65, 3) := by decide +kernel
theorem dL_law_479 : decode cL_law 479 = .ok (.aload_n 2, 1) := by decide +kernel
theorem dL_law_480 : decode cL_law 480 = .ok (.aload_n 0, 1) := by decide +kernel
theorem dL_law_481 : decode cL_law 481 = .ok (.iload_n 3, 1) := by decide +kernel
theorem dL_law_482 : decode cL_law 482 = .ok (.iconst 1, 1) := by decide +kernel
theorem dL_law_483 : decode cL_law 483 = .ok (.iadd, 1) := by decide +kernel
theorem dL_law_484 : decode cL_law 484 = .ok (.iaload, 1) := by decide +kernel
theorem dL_law_485 : decode cL_law 485 = .ok (.invokevirtual 68, 3) := by decide +kernel
theorem dL_law_488 : decode cL_law 488 = .ok (.if_icmp .eq 432, 3) := by decide +kernel
theorem dL_law_491 : decode cL_law 491 = .ok (.iconst 0, 1) := by decide +kernel
theorem dL_law_492 : decode cL_law 492 = .ok (.ireturn, 1) := by decide +kernel
theorem dL_law_493 : decode cL_law 493 = .ok (.aload_n 1, 1) := by decide +kernel
theorem dL_law_494 : decode cL_law 494 = .ok (.aload_n 0, 1) := by decide +kernel
theorem dL_law_495 : decode cL_law 495 = .ok (.iload_n 3, 1) := by decide +kernel
theorem dL_law_496 : decode cL_law 496 = .ok (.iconst 1, 1) := by decide +kernel
theorem dL_law_497 : decode cL_law 497 = .ok (.iadd, 1) := by decide +kernel
theorem dL_law_498 : decode cL_law 498 = .ok (.iaload, 1) := by decide +kernel
theorem dL_law_499 : decode cL_law 499 = .ok (.invokevirtual 69, 3) := by decide +kernel
theorem dL_law_502 : decode cL_law 502 = .ok (.aload_n 2, 1) := by decide +kernel
theorem dL_law_503 : decode cL_law 503 = .ok (.aload_n 0, 1) := by decide +kernel
theorem dL_law_504 : decode cL_law 504 = .ok (.iload_n 3, 1) := by decide +kernel
theorem dL_law_505 : decode cL_law 505 = .ok (.iconst 1, 1) := by decide +kernel
theorem dL_law_506 : decode cL_law 506 = .ok (.iadd, 1) := by decide +kernel
theorem dL_law_507 : decode cL_law 507 = .ok (.iaload, 1) := by decide +kernel
theorem dL_law_508 : decode cL_law 508 = .ok (.invokevirtual 72, 3) := by decide +kernel
theorem dL_law_511 : decode cL_law 511 = .ok (.if_icmp .eq 409, 3) := by decide +kernel
theorem dL_law_514 : decode cL_law 514 = .ok (.iconst 0, 1) := by decide +kernel
theorem dL_law_515 : decode cL_law 515 = .ok (.ireturn, 1) := by decide +kernel
theorem dL_law_516 : decode cL_law 516 = .ok (.aload_n 1, 1) := by decide +kernel
theorem dL_law_517 : decode cL_law 517 = .ok (.aload_n 0, 1) := by decide +kernel
theorem dL_law_518 : decode cL_law 518 = .ok (.iload_n 3, 1) := by decide +kernel
theorem dL_law_519 : decode cL_law 519 = .ok (.iconst 1, 1) := by decide +kernel
theorem dL_law_520 : decode cL_law 520 = .ok (.iadd, 1) := by decide +kernel
theorem dL_law_521 : decode cL_law 521 = .ok (.iaload, 1) := by decide +kernel
theorem dL_law_522 : decode cL_law 522 = .ok (.invokevirtual 73, 3) := by decide +kernel
theorem dL_law_525 : decode cL_law 525 = .ok (.aload_n 2, 1) := by decide +kernel
theorem dL_law_526 : decode cL_law 526 = .ok (.aload_n 0, 1) := by decide +kernel
theorem dL_law_527 : decode cL_law 527 = .ok (.iload_n 3, 1) := by decide +kernel
theorem dL_law_528 : decode cL_law 528 = .ok (.iconst 1, 1) := by decide +kernel
theorem dL_law_529 : decode cL_law 529 = .ok (.iadd, 1) := by decide +kernel
theorem dL_law_530 : decode cL_law 530 = .ok (.iaload, 1) := by decide +kernel
theorem dL_law_531 : decode cL_law 531 = .ok (.invokevirtual 76, 3) := by decide +kernel
theorem dL_law_534 : decode cL_law 534 = .ok (.if_icmp .eq 386, 3) := by decide +kernel
theorem dL_law_537 : decode cL_law 537 = .ok (.iconst 0, 1) := by decide +kernel
theorem dL_law_538 : decode cL_law 538 = .ok (.ireturn, 1) := by decide +kernel
theorem dL_law_539 : decode cL_law 539 = .ok (.aload_n 1, 1) := by decide +kernel
theorem dL_law_540 : decode cL_law 540 = .ok (.aload_n 0, 1) := by decide +kernel
theorem dL_law_541 : decode cL_law 541 = .ok (.iload_n 3, 1) := by decide +kernel
theorem dL_law_542 : decode cL_law 542 = .ok (.iconst 1, 1) := by decide +kernel
theorem dL_law_543 : decode cL_law 543 = .ok (.iadd, 1) := by decide +kernel
theorem dL_law_544 : decode cL_law 544 = .ok (.iaload, 1) := by decide +kernel
theorem dL_law_545 : decode cL_law 545 = .ok (.aload_n 0, 1) := by decide +kernel
theorem dL_law_546 : decode cL_law 546 = .ok (.iload_n 3, 1) := by decide +kernel
theorem dL_law_547 : decode cL_law 547 = .ok (.iconst 2, 1) := by decide +kernel
theorem dL_law_548 : decode cL_law 548 = .ok (.iadd, 1) := by decide +kernel
theorem dL_law_549 : decode cL_law 549 = .ok (.iaload, 1) := by decide +kernel
theorem dL_law_550 : decode cL_law 550 = .ok (.aload_n 0, 1) := by decide +kernel
theorem dL_law_551 : decode cL_law 551 = .ok (.iload_n 3, 1) := by decide +kernel
theorem dL_law_552 : decode cL_law 552 = .ok (.iconst 3, 1) := by decide +kernel
theorem dL_law_553 : decode cL_law 553 = .ok (.iadd, 1) := by decide +kernel
theorem dL_law_554 : decode cL_law 554 = .ok (.iaload, 1) := by decide +kernel
theorem dL_law_555 : decode cL_law 555 = .ok (.aload_n 0, 1) := by decide +kernel
theorem dL_law_556 : decode cL_law 556 = .ok (.iload_n 3, 1) := by decide +kernel
theorem dL_law_557 : decode cL_law 557 = .ok (.iconst 4, 1) := by decide +kernel
theorem dL_law_558 : decode cL_law 558 = .ok (.iadd, 1) := by decide +kernel
theorem dL_law_559 : decode cL_law 559 = .ok (.iaload, 1) := by decide +kernel
theorem dL_law_560 : decode cL_law 560 = .ok (.invokevirtual 77, 3) := by decide +kernel
theorem dL_law_563 : decode cL_law 563 = .ok (.aload_n 2, 1) := by decide +kernel
theorem dL_law_564 : decode cL_law 564 = .ok (.aload_n 0, 1) := by decide +kernel
theorem dL_law_565 : decode cL_law 565 = .ok (.iload_n 3, 1) := by decide +kernel
theorem dL_law_566 : decode cL_law 566 = .ok (.iconst 1, 1) := by decide +kernel
theorem dL_law_567 : decode cL_law 567 = .ok (.iadd, 1) := by decide +kernel
theorem dL_law_568 : decode cL_law 568 = .ok (.iaload, 1) := by decide +kernel
theorem dL_law_569 : decode cL_law 569 = .ok (.aload_n 0, 1) := by decide +kernel
theorem dL_law_570 : decode cL_law 570 = .ok (.iload_n 3, 1) := by decide +kernel
theorem dL_law_571 : decode cL_law 571 = .ok (.iconst 2, 1) := by decide +kernel
theorem dL_law_572 : decode cL_law 572 = .ok (.iadd, 1) := by decide +kernel
theorem dL_law_573 : decode cL_law 573 = .ok (.iaload, 1) := by decide +kernel
theorem dL_law_574 : decode cL_law 574 = .ok (.aload_n 0, 1) := by decide +kernel
theorem dL_law_575 : decode cL_law 575 = .ok (.iload_n 3, 1) := by decide +kernel
theorem dL_law_576 : decode cL_law 576 = .ok (.iconst 3, 1) := by decide +kernel
theorem dL_law_577 : decode cL_law 577 = .ok (.iadd, 1) := by decide +kernel
theorem dL_law_578 : decode cL_law 578 = .ok (.iaload, 1) := by decide +kernel
theorem dL_law_579 : decode cL_law 579 = .ok (.aload_n 0, 1) := by decide +kernel
theorem dL_law_580 : decode cL_law 580 = .ok (.iload_n 3, 1) := by decide +kernel
theorem dL_law_581 : decode cL_law 581 = .ok (.iconst 4, 1) := by decide +kernel
theorem dL_law_582 : decode cL_law 582 = .ok (.iadd, 1) := by decide +kernel
theorem dL_law_583 : decode cL_law 583 = .ok (.iaload, 1) := by decide +kernel
theorem dL_law_584 : decode cL_law 584 = .ok (.invokevirtual 81, 3) := by decide +kernel
theorem dL_law_587 : decode cL_law 587 = .ok (.if_icmp .eq 333, 3) := by decide +kernel
theorem dL_law_590 : decode cL_law 590 = .ok (.iconst 0, 1) := by decide +kernel
theorem dL_law_591 : decode cL_law 591 = .ok (.ireturn, 1) := by decide +kernel
theorem dL_law_592 : decode cL_law 592 = .ok (.aload_n 1, 1) := by decide +kernel
theorem dL_law_593 : decode cL_law 593 = .ok (.aload_n 0, 1) := by decide +kernel
theorem dL_law_594 : decode cL_law 594 = .ok (.iload_n 3, 1) := by decide +kernel
theorem dL_law_595 : decode cL_law 595 = .ok (.iconst 1, 1) := by decide +kernel
theorem dL_law_596 : decode cL_law 596 = .ok (.iadd, 1) := by decide +kernel
theorem dL_law_597 : decode cL_law 597 = .ok (.iaload, 1) := by decide +kernel
theorem dL_law_598 : decode cL_law 598 = .ok (.aload_n 0, 1) := by decide +kernel
theorem dL_law_599 : decode cL_law 599 = .ok (.iload_n 3, 1) := by decide +kernel
theorem dL_law_600 : decode cL_law 600 = .ok (.iconst 2, 1) := by decide +kernel
theorem dL_law_601 : decode cL_law 601 = .ok (.iadd, 1) := by decide +kernel
theorem dL_law_602 : decode cL_law 602 = .ok (.iaload, 1) := by decide +kernel
theorem dL_law_603 : decode cL_law 603 = .ok (.aload_n 0, 1) := by decide +kernel
theorem dL_law_604 : decode cL_law 604 = .ok (.iload_n 3, 1) := by decide +kernel
theorem dL_law_605 : decode cL_law 605 = .ok (.iconst 3, 1) := by decide +kernel
theorem dL_law_606 : decode cL_law 606 = .ok (.iadd, 1) := by decide +kernel
theorem dL_law_607 : decode cL_law 607 = .ok (.iaload, 1) := by decide +kernel
theorem dL_law_608 : decode cL_law 608 = .ok (.invokevirtual 82, 3) := by decide +kernel
theorem dL_law_611 : decode cL_law 611 = .ok (.aload_n 2, 1) := by decide +kernel
theorem dL_law_612 : decode cL_law 612 = .ok (.aload_n 0, 1) := by decide +kernel
theorem dL_law_613 : decode cL_law 613 = .ok (.iload_n 3, 1) := by decide +kernel
theorem dL_law_614 : decode cL_law 614 = .ok (.iconst 1, 1) := by decide +kernel
theorem dL_law_615 : decode cL_law 615 = .ok (.iadd, 1) := by decide +kernel
theorem dL_law_616 : decode cL_law 616 = .ok (.iaload, 1) := by decide +kernel
theorem dL_law_617 : decode cL_law 617 = .ok (.aload_n 0, 1) := by decide +kernel
theorem dL_law_618 : decode cL_law 618 = .ok (.iload_n 3, 1) := by decide +kernel
theorem dL_law_619 : decode cL_law 619 = .ok (.iconst 2, 1) := by decide +kernel
theorem dL_law_620 : decode cL_law 620 = .ok (.iadd, 1) := by decide +kernel
theorem dL_law_621 : decode cL_law 621 = .ok (.iaload, 1) := by decide +kernel
theorem dL_law_622 : decode cL_law 622 = .ok (.aload_n 0, 1) := by decide +kernel
theorem dL_law_623 : decode cL_law 623 = .ok (.iload_n 3, 1) := by decide +kernel
theorem dL_law_624 : decode cL_law 624 = .ok (.iconst 3, 1) := by decide +kernel
theorem dL_law_625 : decode cL_law 625 = .ok (.iadd, 1) := by decide +kernel
theorem dL_law_626 : decode cL_law 626 = .ok (.iaload, 1) := by decide +kernel
theorem dL_law_627 : decode cL_law 627 = .ok (.invokevirtual 86, 3) := by decide +kernel
theorem dL_law_630 : decode cL_law 630 = .ok (.if_icmp .eq 290, 3) := by decide +kernel
theorem dL_law_633 : decode cL_law 633 = .ok (.iconst 0, 1) := by decide +kernel
theorem dL_law_634 : decode cL_law 634 = .ok (.ireturn, 1) := by decide +kernel
theorem dL_law_635 : decode cL_law 635 = .ok (.aload_n 1, 1) := by decide +kernel
theorem dL_law_636 : decode cL_law 636 = .ok (.aload_n 0, 1) := by decide +kernel
theorem dL_law_637 : decode cL_law 637 = .ok (.iload_n 3, 1) := by decide +kernel
theorem dL_law_638 : decode cL_law 638 = .ok (.iconst 1, 1) := by decide +kernel
theorem dL_law_639 : decode cL_law 639 = .ok (.iadd, 1) := by decide +kernel
theorem dL_law_640 : decode cL_law 640 = .ok (.iaload, 1) := by decide +kernel
theorem dL_law_641 : decode cL_law 641 = .ok (.invokevirtual 87, 3) := by decide +kernel
theorem dL_law_644 : decode cL_law 644 = .ok (.aload_n 2, 1) := by decide +kernel
theorem dL_law_645 : decode cL_law 645 = .ok (.aload_n 0, 1) := by decide +kernel
theorem dL_law_646 : decode cL_law 646 = .ok (.iload_n 3, 1) := by decide +kernel
theorem dL_law_647 : decode cL_law 647 = .ok (.iconst 1, 1) := by decide +kernel
theorem dL_law_648 : decode cL_law 648 = .ok (.iadd, 1) := by decide +kernel
theorem dL_law_649 : decode cL_law 649 = .ok (.iaload, 1) := by decide +kernel
theorem dL_law_650 : decode cL_law 650 = .ok (.invokevirtual 90, 3) := by decide +kernel
theorem dL_law_653 : decode cL_law 653 = .ok (.if_icmp .eq 267, 3) := by decide +kernel
theorem dL_law_656 : decode cL_law 656 = .ok (.iconst 0, 1) := by decide +kernel
theorem dL_law_657 : decode cL_law 657 = .ok (.ireturn, 1) := by decide +kernel
theorem dL_law_658 : decode cL_law 658 = .ok (.aload_n 1, 1) := by decide +kernel
theorem dL_law_659 : decode cL_law 659 = .ok (.aload_n 0, 1) := by decide +kernel
theorem dL_law_660 : decode cL_law 660 = .ok (.iload_n 3, 1) := by decide +kernel
theorem dL_law_661 : decode cL_law 661 = .ok (.iconst 1, 1) := by decide +kernel
theorem dL_law_662 : decode cL_law 662 = .ok (.iadd, 1) := by decide +kernel
theorem dL_law_663 : decode cL_law 663 = .ok (.iaload, 1) := by decide +kernel
theorem dL_law_664 : decode cL_law 664 = .ok (.aload_n 0, 1) := by decide +kernel
theorem dL_law_665 : decode cL_law 665 = .ok (.iload_n 3, 1) := by decide +kernel
theorem dL_law_666 : decode cL_law 666 = .ok (.iconst 2, 1) := by decide +kernel
theorem dL_law_667 : decode cL_law 667 = .ok (.iadd, 1) := by decide +kernel
theorem dL_law_668 : decode cL_law 668 = .ok (.iaload, 1) := by decide +kernel
theorem dL_law_669 : decode cL_law 669 = .ok (.aload_n 0, 1) := by decide +kernel
theorem dL_law_670 : decode cL_law 670 = .ok (.iload_n 3, 1) := by decide +kernel
theorem dL_law_671 : decode cL_law 671 = .ok (.iconst 3, 1) := by decide +kernel
theorem dL_law_672 : decode cL_law 672 = .ok (.iadd, 1) := by decide +kernel
theorem dL_law_673 : decode cL_law 673 = .ok (.iaload, 1) := by decide +kernel
theorem dL_law_674 : decode cL_law 674 = .ok (.aload_n 0, 1) := by decide +kernel
theorem dL_law_675 : decode cL_law 675 = .ok (.iload_n 3, 1) := by decide +kernel
theorem dL_law_676 : decode cL_law 676 = .ok (.iconst 4, 1) := by decide +kernel
theorem dL_law_677 : decode cL_law 677 = .ok (.iadd, 1) := by decide +kernel
theorem dL_law_678 : decode cL_law 678 = .ok (.iaload, 1) := by decide +kernel
theorem dL_law_679 : decode cL_law 679 = .ok (.invokevirtual 91, 3) := by decide +kernel
theorem dL_law_682 : decode cL_law 682 = .ok (.aload_n 2, 1) := by decide +kernel
theorem dL_law_683 : decode cL_law 683 = .ok (.aload_n 0, 1) := by decide +kernel
theorem dL_law_684 : decode cL_law 684 = .ok (.iload_n 3, 1) := by decide +kernel
theorem dL_law_685 : decode cL_law 685 = .ok (.iconst 1, 1) := by decide +kernel
theorem dL_law_686 : decode cL_law 686 = .ok (.iadd, 1) := by decide +kernel
theorem dL_law_687 : decode cL_law 687 = .ok (.iaload, 1) := by decide +kernel
theorem dL_law_688 : decode cL_law 688 = .ok (.aload_n 0, 1) := by decide +kernel
theorem dL_law_689 : decode cL_law 689 = .ok (.iload_n 3, 1) := by decide +kernel
theorem dL_law_690 : decode cL_law 690 = .ok (.iconst 2, 1) := by decide +kernel
theorem dL_law_691 : decode cL_law 691 = .ok (.iadd, 1) := by decide +kernel
theorem dL_law_692 : decode cL_law 692 = .ok (.iaload, 1) := by decide +kernel
theorem dL_law_693 : decode cL_law 693 = .ok (.aload_n 0, 1) := by decide +kernel
theorem dL_law_694 : decode cL_law 694 = .ok (.iload_n 3, 1) := by decide +kernel
theorem dL_law_695 : decode cL_law 695 = .ok (.iconst 3, 1) := by decide +kernel
theorem dL_law_696 : decode cL_law 696 = .ok (.iadd, 1) := by decide +kernel
theorem dL_law_697 : decode cL_law 697 = .ok (.iaload, 1) := by decide +kernel
theorem dL_law_698 : decode cL_law 698 = .ok (.aload_n 0, 1) := by decide +kernel
theorem dL_law_699 : decode cL_law 699 = .ok (.iload_n 3, 1) := by decide +kernel
theorem dL_law_700 : decode cL_law 700 = .ok (.iconst 4, 1) := by decide +kernel
theorem dL_law_701 : decode cL_law 701 = .ok (.iadd, 1) := by decide +kernel
theorem dL_law_702 : decode cL_law 702 = .ok (.iaload, 1) := by decide +kernel
theorem dL_law_703 : decode cL_law 703 = .ok (.invokevirtual 94, 3) := by decide +kernel
theorem dL_law_706 : decode cL_law 706 = .ok (.if_icmp .eq 214, 3) := by decide +kernel
theorem dL_law_709 : decode cL_law 709 = .ok (.iconst 0, 1) := by decide +kernel
theorem dL_law_710 : decode cL_law 710 = .ok (.ireturn, 1) := by decide +kernel
theorem dL_law_711 : decode cL_law 711 = .ok (.aload_n 1, 1) := by decide +kernel
theorem dL_law_712 : decode cL_law 712 = .ok (.aload_n 0, 1) := by decide +kernel
theorem dL_law_713 : decode cL_law 713 = .ok (.iload_n 3, 1) := by decide +kernel
theorem dL_law_714 : decode cL_law 714 = .ok (.iconst 1, 1) := by decide +kernel
theorem dL_law_715 : decode cL_law 715 = .ok (.iadd, 1) := by decide +kernel
theorem dL_law_716 : decode cL_law 716 = .ok (.iaload, 1) := by decide +kernel
theorem dL_law_717 : decode cL_law 717 = .ok (.aload_n 0, 1) := by decide +kernel
theorem dL_law_718 : decode cL_law 718 = .ok (.iload_n 3, 1) := by decide +kernel
theorem dL_law_719 : decode cL_law 719 = .ok (.iconst 2, 1) := by decide +kernel
theorem dL_law_720 : decode cL_law 720 = .ok (.iadd, 1) := by decide +kernel
theorem dL_law_721 : decode cL_law 721 = .ok (.iaload, 1) := by decide +kernel
theorem dL_law_722 : decode cL_law 722 = .ok (.aload_n 0, 1) := by decide +kernel
theorem dL_law_723 : decode cL_law 723 = .ok (.iload_n 3, 1) := by decide +kernel
theorem dL_law_724 : decode cL_law 724 = .ok (.iconst 3, 1) := by decide +kernel
theorem dL_law_725 : decode cL_law 725 = .ok (.iadd, 1) := by decide +kernel
theorem dL_law_726 : decode cL_law 726 = .ok (.iaload, 1) := by decide +kernel
theorem dL_law_727 : decode cL_law 727 = .ok (.invokevirtual 95, 3) := by decide +kernel
theorem dL_law_730 : decode cL_law 730 = .ok (.aload_n 2, 1) := by decide +kernel
theorem dL_law_731 : decode cL_law 731 = .ok (.aload_n 0, 1) := by decide +kernel
theorem dL_law_732 : decode cL_law 732 = .ok (.iload_n 3, 1) := by decide +kernel
theorem dL_law_733 : decode cL_law 733 = .ok (.iconst 1, 1) := by decide +kernel
theorem dL_law_734 : decode cL_law 734 = .ok (.iadd, 1) := by decide +kernel
theorem dL_law_735 : decode cL_law 735 = .ok (.iaload, 1) := by decide +kernel
theorem dL_law_736 : decode cL_law 736 = .ok (.aload_n 0, 1) := by decide +kernel
theorem dL_law_737 : decode cL_law 737 = .ok (.iload_n 3, 1) := by decide +kernel
theorem dL_law_738 : decode cL_law 738 = .ok (.iconst 2, 1) := by decide +kernel
theorem dL_law_739 : decode cL_law 739 = .ok (.iadd, 1) := by decide +kernel
theorem dL_law_740 : decode cL_law 740 = .ok (.iaload, 1) := by decide +kernel
theorem dL_law_741 : decode cL_law 741 = .ok (.aload_n 0, 1) := by decide +kernel
theorem dL_law_742 : decode cL_law 742 = .ok (.iload_n 3, 1) := by decide +kernel
theorem dL_law_743 : decode cL_law 743 = .ok (.iconst 3, 1) := by decide +kernel
theorem dL_law_744 : decode cL_law 744 = .ok (.iadd, 1) := by decide +kernel
theorem dL_law_745 : decode cL_law 745 = .ok (.iaload, 1) := by decide +kernel
theorem dL_law_746 : decode cL_law 746 = .ok (.invokevirtual 98, 3) := by decide +kernel
theorem dL_law_749 : decode cL_law 749 = .ok (.if_icmp .eq 171, 3) := by decide +kernel
theorem dL_law_752 : decode cL_law 752 = .ok (.iconst 0, 1) := by decide +kernel
theorem dL_law_753 : decode cL_law 753 = .ok (.ireturn, 1) := by decide +kernel
theorem dL_law_754 : decode cL_law 754 = .ok (.aload_n 1, 1) := by decide +kernel
theorem dL_law_755 : decode cL_law 755 = .ok (.aload_n 0, 1) := by decide +kernel
theorem dL_law_756 : decode cL_law 756 = .ok (.iload_n 3, 1) := by decide +kernel
theorem dL_law_757 : decode cL_law 757 = .ok (.iconst 1, 1) := by decide +kernel
theorem dL_law_758 : decode cL_law 758 = .ok (.iadd, 1) := by decide +kernel
theorem dL_law_759 : decode cL_law 759 = .ok (.iaload, 1) := by decide +kernel
theorem dL_law_760 : decode cL_law 760 = .ok (.aload_n 0, 1) := by decide +kernel
theorem dL_law_761 : decode cL_law 761 = .ok (.iload_n 3, 1) := by decide +kernel
theorem dL_law_762 : decode cL_law 762 = .ok (.iconst 2, 1) := by decide +kernel
theorem dL_law_763 : decode cL_law 763 = .ok (.iadd, 1) := by decide +kernel
theorem dL_law_764 : decode cL_law 764 = .ok (.iaload, 1) := by decide +kernel
theorem dL_law_765 : decode cL_law 765 = .ok (.aload_n 0, 1) := by decide +kernel
theorem dL_law_766 : decode cL_law 766 = .ok (.iload_n 3, 1) := by decide +kernel
theorem dL_law_767 : decode cL_law 767 = .ok (.iconst 3, 1) := by decide +kernel
theorem dL_law_768 : decode cL_law 768 = .ok (.iadd, 1) := by decide +kernel
theorem dL_law_769 : decode cL_law 769 = .ok (.iaload, 1) := by decide +kernel
theorem dL_law_770 : decode cL_law 770 = .ok (.aload_n 0, 1) := by decide +kernel
theorem dL_law_771 : decode cL_law 771 = .ok (.iload_n 3, 1) := by decide +kernel
theorem dL_law_772 : decode cL_law 772 = .ok (.iconst 4, 1) := by decide +kernel
theorem dL_law_773 : decode cL_law 773 = .ok (.iadd, 1) := by decide +kernel
theorem dL_law_774 : decode cL_law 774 = .ok (.iaload, 1) := by decide +kernel
theorem dL_law_775 : decode cL_law 775 = .ok (.aload_n 0, 1) := by decide +kernel
theorem dL_law_776 : decode cL_law 776 = .ok (.iload_n 3, 1) := by decide +kernel
theorem dL_law_777 : decode cL_law 777 = .ok (.iconst 5, 1) := by decide +kernel
theorem dL_law_778 : decode cL_law 778 = .ok (.iadd, 1) := by decide +kernel
theorem dL_law_779 : decode cL_law 779 = .ok (.iaload, 1) := by decide +kernel
theorem dL_law_780 : decode cL_law 780 = .ok (.invokevirtual 99, 3) := by decide +kernel
theorem dL_law_783 : decode cL_law 783 = .ok (.aload_n 2, 1) := by decide +kernel
theorem dL_law_784 : decode cL_law 784 = .ok (.aload_n 0, 1) := by decide +kernel
theorem dL_law_785 : decode cL_law 785 = .ok (.iload_n 3, 1) := by decide +kernel
theorem dL_law_786 : decode cL_law 786 = .ok (.iconst 1, 1) := by decide +kernel
theorem dL_law_787 : decode cL_law 787 = .ok (.iadd, 1) := by decide +kernel
theorem dL_law_788 : decode cL_law 788 = .ok (.iaload, 1) := by decide +kernel
theorem dL_law_789 : decode cL_law 789 = .ok (.aload_n 0, 1) := by decide +kernel
theorem dL_law_790 : decode cL_law 790 = .ok (.iload_n 3, 1) := by decide +kernel
theorem dL_law_791 : decode cL_law 791 = .ok (.iconst 2, 1) := by decide +kernel
theorem dL_law_792 : decode cL_law 792 = .ok (.iadd, 1) := by decide +kernel
theorem dL_law_793 : decode cL_law 793 = .ok (.iaload, 1) := by decide +kernel
theorem dL_law_794 : decode cL_law 794 = .ok (.aload_n 0, 1) := by decide +kernel
theorem dL_law_795 : decode cL_law 795 = .ok (.iload_n 3, 1) := by decide +kernel
theorem dL_law_796 : decode cL_law 796 = .ok (.iconst 3, 1) := by decide +kernel
theorem dL_law_797 : decode cL_law 797 = .ok (.iadd, 1) := by decide +kernel
theorem dL_law_798 : decode cL_law 798 = .ok (.iaload, 1) := by decide +kernel
theorem dL_law_799 : decode cL_law 799 = .ok (.aload_n 0, 1) := by decide +kernel
theorem dL_law_800 : decode cL_law 800 = .ok (.iload_n 3, 1) := by decide +kernel
theorem dL_law_801 : decode cL_law 801 = .ok (.iconst 4, 1) := by decide +kernel
theorem dL_law_802 : decode cL_law 802 = .ok (.iadd, 1) := by decide +kernel
theorem dL_law_803 : decode cL_law 803 = .ok (.iaload, 1) := by decide +kernel
theorem dL_law_804 : decode cL_law 804 = .ok (.aload_n 0, 1) := by decide +kernel
theorem dL_law_805 : decode cL_law 805 = .ok (.iload_n 3, 1) := by decide +kernel
theorem dL_law_806 : decode cL_law 806 = .ok (.iconst 5, 1) := by decide +kernel
theorem dL_law_807 : decode cL_law 807 = .ok (.iadd, 1) := by decide +kernel
theorem dL_law_808 : decode cL_law 808 = .ok (.iaload, 1) := by decide +kernel
theorem dL_law_809 : decode cL_law 809 = .ok (.invokevirtual 103, 3) := by decide +kernel
theorem dL_law_812 : decode cL_law 812 = .ok (.if_icmp .eq 108, 3) := by decide +kernel
theorem dL_law_815 : decode cL_law 815 = .ok (.iconst 0, 1) := by decide +kernel
theorem dL_law_816 : decode cL_law 816 = .ok (.ireturn, 1) := by decide +kernel
theorem dL_law_817 : decode cL_law 817 = .ok (.aload_n 1, 1) := by decide +kernel
theorem dL_law_818 : decode cL_law 818 = .ok (.aload_n 0, 1) := by decide +kernel
theorem dL_law_819 : decode cL_law 819 = .ok (.iload_n 3, 1) := by decide +kernel
theorem dL_law_820 : decode cL_law 820 = .ok (.iconst 1, 1) := by decide +kernel
theorem dL_law_821 : decode cL_law 821 = .ok (.iadd, 1) := by decide +kernel
theorem dL_law_822 : decode cL_law 822 = .ok (.iaload, 1) := by decide +kernel
theorem dL_law_823 : decode cL_law 823 = .ok (.aload_n 0, 1) := by decide +kernel
theorem dL_law_824 : decode cL_law 824 = .ok (.iload_n 3, 1) := by decide +kernel
theorem dL_law_825 : decode cL_law 825 = .ok (.iconst 2, 1) := by decide +kernel
theorem dL_law_826 : decode cL_law 826 = .ok (.iadd, 1) := by decide +kernel
theorem dL_law_827 : decode cL_law 827 = .ok (.iaload, 1) := by decide +kernel
theorem dL_law_828 : decode cL_law 828 = .ok (.invokevirtual 104, 3) := by decide +kernel
theorem dL_law_831 : decode cL_law 831 = .ok (.aload_n 2, 1) := by decide +kernel
theorem dL_law_832 : decode cL_law 832 = .ok (.aload_n 0, 1) := by decide +kernel
theorem dL_law_833 : decode cL_law 833 = .ok (.iload_n 3, 1) := by decide +kernel
theorem dL_law_834 : decode cL_law 834 = .ok (.iconst 1, 1) := by decide +kernel
theorem dL_law_835 : decode cL_law 835 = .ok (.iadd, 1) := by decide +kernel
theorem dL_law_836 : decode cL_law 836 = .ok (.iaload, 1) := by decide +kernel
theorem dL_law_837 : decode cL_law 837 = .ok (.aload_n 0, 1) := by decide +kernel
theorem dL_law_838 : decode cL_law 838 = .ok (.iload_n 3, 1) := by decide +kernel
theorem dL_law_839 : decode cL_law 839 = .ok (.iconst 2, 1) := by decide +kernel
theorem dL_law_840 : decode cL_law 840 = .ok (.iadd, 1) := by decide +kernel
theorem dL_law_841 : decode cL_law 841 = .ok (.iaload, 1) := by decide +kernel
theorem dL_law_842 : decode cL_law 842 = .ok (.invokevirtual 107, 3) := by decide +kernel
theorem dL_law_845 : decode cL_law 845 = .ok (.if_icmp .eq 75, 3) := by decide +kernel
theorem dL_law_848 : decode cL_law 848 = .ok (.iconst 0, 1) := by decide +kernel
theorem dL_law_849 : decode cL_law 849 = .ok (.ireturn, 1) := by decide +kernel
theorem dL_law_850 : decode cL_law 850 = .ok (.aload_n 1, 1) := by decide +kernel
theorem dL_law_851 : decode cL_law 851 = .ok (.aload_n 0, 1) := by decide +kernel
theorem dL_law_852 : decode cL_law 852 = .ok (.iload_n 3, 1) := by decide +kernel
theorem dL_law_853 : decode cL_law 853 = .ok (.iconst 1, 1) := by decide +kernel
theorem dL_law_854 : decode cL_law 854 = .ok (.iadd, 1) := by decide +kernel
theorem dL_law_855 : decode cL_law 855 = .ok (.iaload, 1) := by decide +kernel
theorem dL_law_856 : decode cL_law 856 = .ok (.aload_n 0, 1) := by decide +kernel
theorem dL_law_857 : decode cL_law 857 = .ok (.iload_n 3, 1) := by decide +kernel
theorem dL_law_858 : decode cL_law 858 = .ok (.iconst 2, 1) := by decide +kernel
theorem dL_law_859 : decode cL_law 859 = .ok (.iadd, 1) := by decide +kernel
theorem dL_law_860 : decode cL_law 860 = .ok (.iaload, 1) := by decide +kernel
theorem dL_law_861 : decode cL_law 861 = .ok (.invokevirtual 108, 3) := by decide +kernel
theorem dL_law_864 : decode cL_law 864 = .ok (.aload_n 2, 1) := by decide +kernel
theorem dL_law_865 : decode cL_law 865 = .ok (.aload_n 0, 1) := by decide +kernel
theorem dL_law_866 : decode cL_law 866 = .ok (.iload_n 3, 1) := by decide +kernel
theorem dL_law_867 : decode cL_law 867 = .ok (.iconst 1, 1) := by decide +kernel
theorem dL_law_868 : decode cL_law 868 = .ok (.iadd, 1) := by decide +kernel
theorem dL_law_869 : decode cL_law 869 = .ok (.iaload, 1) := by decide +kernel
theorem dL_law_870 : decode cL_law 870 = .ok (.aload_n 0, 1) := by decide +kernel
theorem dL_law_871 : decode cL_law 871 = .ok (.iload_n 3, 1) := by decide +kernel
theorem dL_law_872 : decode cL_law 872 = .ok (.iconst 2, 1) := by decide +kernel
theorem dL_law_873 : decode cL_law 873 = .ok (.iadd, 1) := by decide +kernel
theorem dL_law_874 : decode cL_law 874 = .ok (.iaload, 1) := by decide +kernel
theorem dL_law_875 : decode cL_law 875 = .ok (.invokevirtual 111, 3) := by decide +kernel
theorem dL_law_878 : decode cL_law 878 = .ok (.if_icmp .eq 42, 3) := by decide +kernel
theorem dL_law_881 : decode cL_law 881 = .ok (.iconst 0, 1) := by decide +kernel
theorem dL_law_882 : decode cL_law 882 = .ok (.ireturn, 1) := by decide +kernel
theorem dL_law_883 : decode cL_law 883 = .ok (.aload_n 1, 1) := by decide +kernel
theorem dL_law_884 : decode cL_law 884 = .ok (.aload_n 0, 1) := by decide +kernel
theorem dL_law_885 : decode cL_law 885 = .ok (.iload_n 3, 1) := by decide +kernel
theorem dL_law_886 : decode cL_law 886 = .ok (.iconst 1, 1) := by decide +kernel
theorem dL_law_887 : decode cL_law 887 = .ok (.iadd, 1) := by decide +kernel
theorem dL_law_888 : decode cL_law 888 = .ok (.iaload, 1) := by decide +kernel
theorem dL_law_889 : decode cL_law 889 = .ok (.invokevirtual 112, 3) := by decide +kernel
theorem dL_law_892 : decode cL_law 892 = .ok (.aload_n 2, 1) := by decide +kernel
theorem dL_law_893 : decode cL_law 893 = .ok (.aload_n 0, 1) := by decide +kernel
theorem dL_law_894 : decode cL_law 894 = .ok (.iload_n 3, 1) := by decide +kernel
theorem dL_law_895 : decode cL_law 895 = .ok (.iconst 1, 1) := by decide +kernel
theorem dL_law_896 : decode cL_law 896 = .ok (.iadd, 1) := by decide +kernel
theorem dL_law_897 : decode cL_law 897 = .ok (.iaload, 1) := by decide +kernel
theorem dL_law_898 : decode cL_law 898 = .ok (.invokevirtual 115, 3) := by decide +kernel
theorem dL_law_901 : decode cL_law 901 = .ok (.if_icmp .eq 19, 3) := by decide +kernel
theorem dL_law_904 : decode cL_law 904 = .ok (.iconst 0, 1) := by decide +kernel
theorem dL_law_905 : decode cL_law 905 = .ok (.ireturn, 1) := by decide +kernel
theorem dL_law_906 : decode cL_law 906 = .ok (.aload_n 1, 1) := by decide +kernel
theorem dL_law_907 : decode cL_law 907 = .ok (.invokevirtual 116, 3) := by decide +kernel
theorem dL_law_910 : decode cL_law 910 = .ok (.aload_n 2, 1) := by decide +kernel
theorem dL_law_911 : decode cL_law 911 = .ok (.invokevirtual 120, 3) := by decide +kernel
theorem dL_law_914 : decode cL_law 914 = .ok (.lcmp, 1) := by decide +kernel
theorem dL_law_915 : decode cL_law 915 = .ok (.ifCond .eq 5, 3) := by decide +kernel
theorem dL_law_918 : decode cL_law 918 = .ok (.iconst 0, 1) := by decide +kernel
theorem dL_law_919 : decode cL_law 919 = .ok (.ireturn, 1) := by decide +kernel
theorem dL_law_920 : decode cL_law 920 = .ok (.iinc 3 6, 3) := by decide +kernel
theorem dL_law_923 : decode cL_law 923 = .ok (.goto (-905), 3) := by decide +kernel
theorem dL_law_926 : decode cL_law 926 = .ok (.iconst 1, 1) := by decide +kernel
theorem dL_law_927 : decode cL_law 927 = .ok (.ireturn, 1) := by decide +kernel
end
section
theorem mem_r {big : List Cond} (ws : List Cond) (ps : List Nat) (hp : ws = ps.filterMap (fun i => big[i]?)) : ∀ w ∈ ws, w ∈ big := by
  intro w hw
  rw [hp] at hw
  obtain ⟨i, -, hi⟩ := List.mem_filterMap.mp hw
  exact List.mem_of_getElem? hi
set_option maxRecDepth 20000 in
theorem wsL_law_r1_in : ∀ w ∈ wsL_law_r1, w ∈ lw_tbl := mem_r _ [51, 52, 39, 583, 584, 46, 53, 54, 55, 56, 57, 58, 59, 60, 40, 173, 73, 74, 41, 174, 86, 87, 42, 175] (by decide +kernel)
set_option maxRecDepth 20000 in
theorem wsL_law_r2_in : ∀ w ∈ wsL_law_r2, w ∈ lw_tbl := mem_r _ [176, 110, 111, 43, 177, 133, 134, 44, 178, 149, 179, 151, 45, 62, 63, 64, 72, 65, 66, 76, 77, 78, 79, 89] (by decide +kernel)
set_option maxRecDepth 20000 in
theorem wsL_law_r3_in : ∀ w ∈ wsL_law_r3, w ∈ lw_tbl := mem_r _ [90, 91, 92, 93, 94, 113, 114, 115, 116, 136, 137, 138, 139, 141, 148, 142, 153, 154, 155, 156, 158, 585, 586, 587] (by decide +kernel)
set_option maxRecDepth 20000 in
theorem wsL_law_r4_in : ∀ w ∈ wsL_law_r4, w ∈ lw_tbl := mem_r _ [588, 656, 589, 590, 592, 593, 595, 596, 598, 599, 600, 601, 602, 603, 604, 605, 606, 607, 608, 609, 201, 202, 203, 204] (by decide +kernel)
set_option maxRecDepth 20000 in
theorem wsL_law_r5_in : ∀ w ∈ wsL_law_r5, w ∈ lw_tbl := mem_r _ [205, 206, 207, 208, 209, 210, 211, 213, 214, 215, 216, 657, 658, 659, 660, 661, 662, 663, 217, 218, 219, 220, 664, 665] (by decide +kernel)
set_option maxRecDepth 20000 in
theorem wsL_law_r6_in : ∀ w ∈ wsL_law_r6, w ∈ lw_tbl := mem_r _ [666, 667, 221, 222, 223, 224, 225, 226, 227, 228, 229, 230, 231, 232, 668, 669, 670, 671, 672, 674, 23, 675, 233, 234] (by decide +kernel)
set_option maxRecDepth 20000 in
theorem wsL_law_r7_in : ∀ w ∈ wsL_law_r7, w ∈ lw_tbl := mem_r _ [235, 236, 237, 238, 239, 240, 242, 0, 243, 180, 244, 245, 246, 247, 248, 250, 251, 252, 253, 254, 255, 256, 257, 258] (by decide +kernel)
set_option maxRecDepth 20000 in
theorem wsL_law_r8_in : ∀ w ∈ wsL_law_r8, w ∈ lw_tbl := mem_r _ [259, 676, 677, 678, 679, 680, 682, 24, 683, 684, 686, 25, 687, 591, 260, 261, 262, 263, 688, 689, 690, 691, 264, 265] (by decide +kernel)
set_option maxRecDepth 20000 in
theorem wsL_law_r9_in : ∀ w ∈ wsL_law_r9, w ∈ lw_tbl := mem_r _ [266, 267, 268, 269, 270, 271, 692, 693, 694, 695, 272, 273, 274, 275, 276, 277, 278, 279, 280, 281, 282, 283, 284, 285] (by decide +kernel)
set_option maxRecDepth 20000 in
theorem wsL_law_r10_in : ∀ w ∈ wsL_law_r10, w ∈ lw_tbl := mem_r _ [286, 287, 288, 290, 1, 291, 80, 292, 293, 295, 2, 296, 696, 697, 698, 699, 700, 702, 26, 703, 297, 298, 299, 300] (by decide +kernel)
set_option maxRecDepth 20000 in
theorem wsL_law_r11_in : ∀ w ∈ wsL_law_r11, w ∈ lw_tbl := mem_r _ [301, 302, 303, 304, 704, 705, 706, 707, 305, 306, 307, 308, 309, 310, 311, 312, 97, 313, 315, 3, 316, 95, 317, 318] (by decide +kernel)
set_option maxRecDepth 20000 in
theorem wsL_law_r12_in : ∀ w ∈ wsL_law_r12, w ∈ lw_tbl := mem_r _ [320, 4, 321, 322, 324, 5, 325, 326, 328, 6, 329, 330, 331, 332, 333, 334, 335, 336, 337, 338, 339, 340, 341, 342] (by decide +kernel)
set_option maxRecDepth 20000 in
theorem wsL_law_r13_in : ∀ w ∈ wsL_law_r13, w ∈ lw_tbl := mem_r _ [343, 344, 345, 346, 348, 7, 349, 350, 352, 8, 353, 354, 355, 47, 356, 357, 358, 359, 360, 361, 363, 9, 364, 365] (by decide +kernel)
set_option maxRecDepth 20000 in
theorem wsL_law_r14_in : ∀ w ∈ wsL_law_r14, w ∈ lw_tbl := mem_r _ [367, 10, 368, 708, 709, 710, 711, 594, 597, 712, 714, 27, 715, 716, 718, 28, 719, 720, 722, 29, 723, 369, 370, 371] (by decide +kernel)
set_option maxRecDepth 20000 in
theorem wsL_law_r15_in : ∀ w ∈ wsL_law_r15, w ∈ lw_tbl := mem_r _ [372, 373, 374, 375, 376, 724, 725, 726, 727, 377, 378, 379, 380, 381, 382, 383, 384, 385, 386, 387, 388, 389, 390, 391] (by decide +kernel)
set_option maxRecDepth 20000 in
theorem wsL_law_r16_in : ∀ w ∈ wsL_law_r16, w ∈ lw_tbl := mem_r _ [392, 393, 394, 395, 396, 398, 11, 399, 400, 402, 12, 403, 404, 406, 13, 407, 408, 728, 729, 730, 731, 732, 734, 30] (by decide +kernel)
set_option maxRecDepth 20000 in
theorem wsL_law_r17_in : ∀ w ∈ wsL_law_r17, w ∈ lw_tbl := mem_r _ [735, 736, 738, 31, 739, 409, 410, 411, 412, 413, 414, 415, 416, 417, 418, 48, 419, 420, 421, 422, 423, 424, 425, 426] (by decide +kernel)
set_option maxRecDepth 20000 in
theorem wsL_law_r18_in : ∀ w ∈ wsL_law_r18, w ∈ lw_tbl := mem_r _ [427, 428, 429, 119, 740, 741, 742, 743, 430, 431, 432, 433, 434, 435, 436, 437, 438, 439, 440, 441, 744, 745, 746, 747] (by decide +kernel)
set_option maxRecDepth 20000 in
theorem wsL_law_r19_in : ∀ w ∈ wsL_law_r19, w ∈ lw_tbl := mem_r _ [442, 443, 444, 445, 446, 447, 448, 449, 123, 122, 450, 452, 14, 453, 454, 748, 749, 750, 751, 752, 754, 32, 755, 456] (by decide +kernel)
set_option maxRecDepth 20000 in
theorem wsL_law_r20_in : ∀ w ∈ wsL_law_r20, w ∈ lw_tbl := mem_r _ [457, 458, 459, 460, 461, 462, 463, 464, 465, 756, 757, 758, 759, 760, 762, 33, 763, 764, 766, 34, 767, 466, 467, 468] (by decide +kernel)
set_option maxRecDepth 20000 in
theorem wsL_law_r21_in : ∀ w ∈ wsL_law_r21, w ∈ lw_tbl := mem_r _ [469, 470, 471, 472, 473, 474, 475, 49, 476, 477, 478, 479, 480, 481, 482, 483, 484, 486, 15, 487, 488, 490, 16, 491] (by decide +kernel)
set_option maxRecDepth 20000 in
theorem wsL_law_r22_in : ∀ w ∈ wsL_law_r22, w ∈ lw_tbl := mem_r _ [492, 494, 17, 495, 496, 498, 18, 499, 768, 769, 770, 771, 772, 500, 501, 502, 503, 504, 506, 19, 507, 508, 509, 510] (by decide +kernel)
set_option maxRecDepth 20000 in
theorem wsL_law_r23_in : ∀ w ∈ wsL_law_r23, w ∈ lw_tbl := mem_r _ [511, 513, 20, 514, 181, 515, 516, 517, 518, 160, 162, 773, 774, 775, 776, 777, 778, 779, 780, 782, 35, 783, 610, 519] (by decide +kernel)
set_option maxRecDepth 20000 in
theorem wsL_law_r24_in : ∀ w ∈ wsL_law_r24, w ∈ lw_tbl := mem_r _ [520, 521, 522, 784, 785, 786, 787, 523, 524, 525, 526, 527, 528, 529, 530, 531, 533, 21, 534, 535, 536, 537, 538, 539] (by decide +kernel)
set_option maxRecDepth 20000 in
theorem wsL_law_r25_in : ∀ w ∈ wsL_law_r25, w ∈ lw_tbl := mem_r _ [541, 22, 542, 788, 789, 790, 791, 792, 794, 36, 795, 543, 544, 545, 546, 547, 548, 549, 550, 551, 796, 797, 798, 799] (by decide +kernel)
set_option maxRecDepth 20000 in
theorem wsL_law_r26_in : ∀ w ∈ wsL_law_r26, w ∈ lw_tbl := mem_r _ [800, 552, 553, 554, 555, 560, 562, 561, 50, 556, 557, 558, 559, 801, 802, 803, 804, 563, 564, 565, 566, 805, 806, 807] (by decide +kernel)
set_option maxRecDepth 20000 in
theorem wsL_law_r27_in : ∀ w ∈ wsL_law_r27, w ∈ lw_tbl := mem_r _ [808, 567, 568, 569, 570, 571, 809, 810, 811, 812, 572, 573, 574, 575, 813, 814, 815, 816, 817, 819, 37, 820, 576, 577] (by decide +kernel)
set_option maxRecDepth 20000 in
theorem wsL_law_r28_in : ∀ w ∈ wsL_law_r28, w ∈ lw_tbl := mem_r _ [578, 579, 580, 581, 582, 821, 822, 823, 824, 825, 826, 827] (by decide +kernel)
set_option maxRecDepth 20000 in
theorem wsX60_in : ∀ w ∈ wsX60, w ∈ lw_tbl := by decide +kernel
set_option maxRecDepth 20000 in
theorem wsX70_in : ∀ w ∈ wsX70, w ∈ lw_tbl := by decide +kernel
set_option maxRecDepth 20000 in
theorem wsX30_in : ∀ w ∈ wsX30, w ∈ lw_tbl := by decide +kernel
set_option maxRecDepth 20000 in
theorem wsX00_in : ∀ w ∈ wsX00, w ∈ lw_tbl := by decide +kernel
set_option maxRecDepth 20000 in
theorem wsX50_in : ∀ w ∈ wsX50, w ∈ lw_tbl := by decide +kernel
set_option maxRecDepth 20000 in
theorem wsX10_in : ∀ w ∈ wsX10, w ∈ lw_tbl := by decide +kernel
set_option maxRecDepth 20000 in
theorem wsX20_in : ∀ w ∈ wsX20, w ∈ lw_tbl := by decide +kernel
set_option maxRecDepth 20000 in
theorem wsX40_in : ∀ w ∈ wsX40, w ∈ lw_tbl := by decide +kernel
theorem app_in {big a b : List Cond} (ha : ∀ w ∈ a, w ∈ big) (hb : ∀ w ∈ b, w ∈ big) : ∀ w ∈ a ++ b, w ∈ big := fun w h => (List.mem_append.mp h).elim (ha w) (hb w)
theorem wsL_law_inn : ∀ w ∈ wsL_law, w ∈ lw_tbl := (app_in (app_in (app_in (app_in (app_in (app_in (app_in (app_in (app_in (app_in wsL_law_r1_in (app_in wsL_law_r2_in (app_in wsL_law_r3_in (app_in wsL_law_r4_in (app_in wsL_law_r5_in (app_in wsL_law_r6_in (app_in wsL_law_r7_in (app_in wsL_law_r8_in (app_in wsL_law_r9_in (app_in wsL_law_r10_in (app_in wsL_law_r11_in (app_in wsL_law_r12_in (app_in wsL_law_r13_in (app_in wsL_law_r14_in (app_in wsL_law_r15_in (app_in wsL_law_r16_in (app_in wsL_law_r17_in (app_in wsL_law_r18_in (app_in wsL_law_r19_in (app_in wsL_law_r20_in (app_in wsL_law_r21_in (app_in wsL_law_r22_in (app_in wsL_law_r23_in (app_in wsL_law_r24_in (app_in wsL_law_r25_in (app_in wsL_law_r26_in (app_in wsL_law_r27_in wsL_law_r28_in))))))))))))))))))))))))))) wsX60_in) wsX70_in) wsX30_in) wsX00_in) wsX50_in) wsX10_in) wsX20_in) wsX40_in) (fun _ h => absurd h List.not_mem_nil))
end
section
/-! helper rows: nest words, worlds, contracts, calls -/
def nwL : List Cond := [
  .fieldLinkNest "BallBoxes" 104 "BallBoxes$Strings" "size" "I" "BallBoxes",
  .fieldLinkNest "BallBoxes" 117 "BallBoxes$Strings" "boxesRead" "I" "BallBoxes",
  .fieldLinkNest "BallBoxes" 189 "BallBoxes$Sheet" "lost" "Z" "BallBoxes",
  .fieldLinkNest "BallBoxes" 193 "BallBoxes$Sheet" "size" "I" "BallBoxes",
  .fieldLinkNest "BallBoxes" 202 "BallBoxes$Sheet" "form" "I" "BallBoxes",
  .fieldLinkNest "BallBoxes" 208 "BallBoxes$Sheet" "items" "[I" "BallBoxes",
  .fieldLinkNest "BallBoxes" 223 "BallBoxes$Ring" "size" "I" "BallBoxes",
  .fieldLinkNest "BallBoxes" 224 "BallBoxes$Ring" "bits" "J" "BallBoxes",
  .fieldLinkNest "BallBoxes$RingTrial" 22 "BallBoxes$Ring" "size" "I" "BallBoxes",
  .fieldLinkNest "BallBoxes$RingTrial" 26 "BallBoxes$Ring" "bits" "J" "BallBoxes",
  .methodLinkNest "BallBoxes" 18 ⟨"BallBoxes$Pairs", "<init>", "()V"⟩ "BallBoxes",
  .methodLinkNest "BallBoxes" 25 ⟨"BallBoxes$Strings", "<init>", "()V"⟩ "BallBoxes",
  .methodLinkNest "BallBoxes" 35 ⟨"BallBoxes$Ring", "<init>", "()V"⟩ "BallBoxes",
  .methodLinkNest "BallBoxes" 42 ⟨"BallBoxes$RingTrial", "<init>", "()V"⟩ "BallBoxes",
  .methodLinkNest "BallBoxes" 53 ⟨"BallBoxes$Sheet", "<init>", "()V"⟩ "BallBoxes",
  .methodLinkNest "BallBoxes" 9 ⟨"BallBoxes$Row", "<init>", "()V"⟩ "BallBoxes",
  .methodLinkNest "BallBoxes$Ring" 31 ⟨"BallBoxes", "loadBehind", "(III)I"⟩ "BallBoxes",
  .methodLinkNest "BallBoxes$RingTrial" 11 ⟨"BallBoxes$Ring", "<init>", "()V"⟩ "BallBoxes",
  .methodLinkNest "BallBoxes$Row" 18 ⟨"BallBoxes", "isBox", "(I)Z"⟩ "BallBoxes",
  .methodLinkNest "BallBoxes$Row" 26 ⟨"BallBoxes", "loadBehind", "(III)I"⟩ "BallBoxes"]
def nestB : Cond → Bool
  | .fieldLinkNest _ _ _ _ _ _ => true
  | .methodLinkNest _ _ _ _ => true
  | _ => false
theorem nwL_nest : ∀ w ∈ nwL, nestB w = true := by decide +kernel
def NW (U : State) : Prop := (∀ w ∈ nwL, va_Nw w U) ∧ va_AO "BallBoxes$Sheet" U
theorem nest_same {w : Cond} (h : nestB w = true) {u U : State} (e : u.vm = U.vm) (q : va_Nw w u) : va_Nw w U := by
  cases w <;> first | (exact va_Nw.same rfl e q) | (simp [nestB] at h)
theorem nest_warm {w : Cond} (h : nestB w = true) {s U : State} (hW : s.WarmedH U.vm) (q : va_Nw w s) : va_Nw w U := by
  cases w <;> first | (exact va_Nw.warmF hW q) | (exact va_Nw.warmM hW q) | (simp [nestB] at h)
theorem NW.same {u U : State} (e : u.vm = U.vm) (q : NW u) : NW U := ⟨fun w h => nest_same (nwL_nest w h) e (q.1 w h), va_AO.moved (u := u) (e ▸ Vm.Alike.refl u.vm) q.2⟩
theorem NW.warm {s U : State} (hW : s.WarmedH U.vm) (q : NW s) : NW U := ⟨fun w h => nest_warm (nwL_nest w h) hW (q.1 w h), va_AO.moved hW.alike q.2⟩
abbrev TY (cI cZ cJ cO : ClassId) : List (ClassId × FieldType) := [(cI, .int), (cZ, .boolean), (cJ, .long), (cO, .object "BallBoxes$Sheet")]
/-- the start of a contract -/
def PreC (D : va_G) (tys : List (ClassId × FieldType)) (av : List Value) (wc : va_W) (sz : Nat) : Array Value → State → Prop := va_Pc av (fun U => U.heap.size = sz ∧ va_P D vwCl wc U.heap ∧ va_K D vwCl tys U ∧ va_D (fun _ => True) wc ∧ NW U)
def QcI (D : va_G) (wc : va_W) (A : Nat → Prop) (r : Int32) : Array Value → State → Outcome → State → Prop := va_Qi (fun (r' : Int32) (_ : Unit) => r' = r) (fun _ t => va_P D vwCl wc t.heap ∧ va_D A wc) A
def QcL (D : va_G) (wc : va_W) (A : Nat → Prop) (r : Int64) : Array Value → State → Outcome → State → Prop := va_Ql (fun (r' : Int64) (_ : Unit) => r' = r) (fun _ t => va_P D vwCl wc t.heap ∧ va_D A wc) A
def QcV (D : va_G) (wc : va_W) (A : Nat → Prop) : Array Value → State → Outcome → State → Prop := va_Qv (fun (_ : Unit) => True) (fun _ t => va_P D vwCl wc t.heap ∧ va_D A wc) A
def QcQ (D : va_G) (wc : va_W) (A : Nat → Prop) (r : Option Nat) : Array Value → State → Outcome → State → Prop := va_Qq (fun (r' : Option Nat) (_ : Unit) => r' = r) (fun _ t => va_P D vwCl wc t.heap ∧ va_D A wc) A
/-- the world at a place of a walk -/
def Wd (D : va_G) (A : Nat → Prop) (H0 : Heap) (ws : va_W) (H : Heap) (locs : List Loc) : Prop := va_P D vwCl ws H ∧ va_D A ws ∧ va_S A H0 H locs
theorem pc_blind {D : va_G} {tys : List (ClassId × FieldType)} {av : List Value} {wc : va_W} {sz : Nat} : FrameBlind (PreC D tys av wc sz) := fun _ U g mk q => by
  obtain ⟨q0, q1, qP, qK, qD, qN⟩ := q
  exact ⟨q0, q1, qP, va_K.moved (u := U) (Vm.Alike.refl U.vm) qK, qD, NW.same (u := U) rfl qN⟩
theorem fm_of {α β : Type} {f : α → Option β} : ∀ {l : List α} {w : List β}, l.map f = w.map some → l.filterMap f = w := by
  intro l
  induction l with
  | nil =>
    intro w h
    cases w with
    | nil => rfl
    | cons b w => cases h
  | cons a l ih =>
    intro w h
    cases w with
    | nil => cases h
    | cons b w =>
      injection h with h1 h2
      simp [List.filterMap_cons, h1, ih h2]
section HB
variable {p : Program} {l : Launch} {e : Env} {R : Room} {s : State} {m : MethodId} {args : Array Value} {below : List Frame} {meth : Method} {c : Code} {H H0 : Heap} {locs : List Loc} {cells slots : Nat} {Q : State → Prop} {cc : ByteArray} {nL : Nat} {Ts : List Cond} {own : String} {D : va_G} {tys : List (ClassId × FieldType)} {A : Nat → Prop} {ws wc wr wc' ws' : va_W} {pc : Nat} {ls : Array Slot} {rest st0 : List Value} {a : Nat}
theorem pre_S {As : List Value} (hK : va_K D vwCl tys s) (hN : NW s) (hw : Wd D A H0 ws H locs) (isC : List Nat) (hC : isC.map (fun i => ws[i]?) = wc.map some) (hCn : va_nd isC = true) : PreS s H (PreC D tys As wc H.size) As :=
  ⟨pc_blind, fun _ hU hW => ⟨rfl, by rw [hU], by rw [hU]; exact hw.1.sub isC (fm_of hC), va_K.moved hW.alike hK, (hw.2.1.sub isC hCn hC).weaken (fun _ _ _ _ => trivial), NW.warm hW hN⟩⟩
theorem pre_V {As : List Value} {b ci q0 N : Nat} {C : String} {T : u_T} {fs : List Value} (hK : va_K D vwCl tys s) (hN : NW s) (hw : Wd D A H0 ws H locs) (isC : List Nat) (hC : isC.map (fun i => ws[i]?) = wc.map some) (hCn : va_nd isC = true) (hc : vwCl[ci]? = some (C, T, N)) (he : wc[q0]? = some (b, .inr (ci, fs))) : PreV s H C b (PreC D tys (.ref b :: As) wc H.size) As :=
  ⟨pc_blind, va_recv hK (hw.1.sub isC (fm_of hC)) hc he, fun _ hU hW => ⟨rfl, by rw [hU], by rw [hU]; exact hw.1.sub isC (fm_of hC), va_K.moved hW.alike hK, (hw.2.1.sub isC hCn hC).weaken (fun _ _ _ _ => trivial), NW.warm hW hN⟩⟩
theorem wd_join {H1 : Heap} {locs1 : List Loc} {t : State} (hA : ∀ q, H0.size ≤ q → A q) (hw : Wd D A H0 ws H locs) (isC isR perm : List Nat) (hC : isC.map (fun i => ws[i]?) = wc.map some) (hR : isR.map (fun i => ws[i]?) = wr.map some) (hRn : va_nd isR = true) (hdis : ∀ i ∈ isR, i ∉ isC) (hp : perm.map (fun i => (wr ++ wc')[i]?) = ws'.map some) (hpn : va_nd perm = true) (ht : t.heap = H1) (hB : va_P D vwCl wc' t.heap ∧ va_D (va_A wc H.size) wc') (hk : ∀ q : Nat, q < H.size → ¬ va_A wc H.size q → H1[q]? = H[q]?) (hS : va_S A H0 H1 locs1) : Wd D A H0 ws' H1 locs1 := by
  have hF := va_free (wc := wc) hw.2.1 hw.2.2 hA isC hC
  have hP1 := hB.1
  rw [ht] at hP1
  obtain ⟨hP, hD⟩ := va_join (wr := wr) (w1 := wc') hw.1 hw.2.1 isC isR hC hR hRn hdis hk hF hP1 hB.2
  exact ⟨hP.sub perm (fm_of hp), hD.sub perm hpn hp, hS⟩
theorem cl_i {r : Int32} {av : Array Value} (hA : ∀ q, H0.size ≤ q → A q) (hw : Wd D A H0 ws H locs) (isC isR perm : List Nat) (hC : isC.map (fun i => ws[i]?) = wc.map some) (hR : isR.map (fun i => ws[i]?) = wr.map some) (hRn : va_nd isR = true) (hdis : ∀ i ∈ isR, i ∉ isC) (hp : perm.map (fun i => (wr ++ wc')[i]?) = ws'.map some) (hpn : va_nd perm = true)
    (hr : va_Run p l e R s m args below meth c H locs cells slots 0 0 (F0 m pc ls st0) rest (QcI D wc' (va_A wc H.size) r av) (va_A wc H.size))
    (kk : ∀ (H1 : Heap) (locs1 : List Loc), Wd D A H0 ws' H1 locs1 → W p l e R s m args below meth c H1 locs1 cells slots Q (F0 m (pc + 3) ls (.int r :: rest))) : W p l e R s m args below meth c H locs cells slots Q (F0 m pc ls st0) := by
  have hF := va_free (wc := wc) hw.2.1 hw.2.2 hA isC hC
  refine va_calli (A1 := va_A wc H.size) hr hw.2.2 (fun q _ h => hF q h) hF (fun r' u t H1 locs1 ht hvm he hB hz hk hS => ?_)
  cases he
  exact kk H1 locs1 (wd_join hA hw isC isR perm hC hR hRn hdis hp hpn ht hB hk hS)
theorem cl_l {r : Int64} {av : Array Value} (hA : ∀ q, H0.size ≤ q → A q) (hw : Wd D A H0 ws H locs) (isC isR perm : List Nat) (hC : isC.map (fun i => ws[i]?) = wc.map some) (hR : isR.map (fun i => ws[i]?) = wr.map some) (hRn : va_nd isR = true) (hdis : ∀ i ∈ isR, i ∉ isC) (hp : perm.map (fun i => (wr ++ wc')[i]?) = ws'.map some) (hpn : va_nd perm = true)
    (hr : va_Run p l e R s m args below meth c H locs cells slots 0 0 (F0 m pc ls st0) rest (QcL D wc' (va_A wc H.size) r av) (va_A wc H.size))
    (kk : ∀ (H1 : Heap) (locs1 : List Loc), Wd D A H0 ws' H1 locs1 → W p l e R s m args below meth c H1 locs1 cells slots Q (F0 m (pc + 3) ls (.long r :: rest))) : W p l e R s m args below meth c H locs cells slots Q (F0 m pc ls st0) := by
  have hF := va_free (wc := wc) hw.2.1 hw.2.2 hA isC hC
  refine va_calll (A1 := va_A wc H.size) hr hw.2.2 (fun q _ h => hF q h) hF (fun r' u t H1 locs1 ht hvm he hB hz hk hS => ?_)
  cases he
  exact kk H1 locs1 (wd_join hA hw isC isR perm hC hR hRn hdis hp hpn ht hB hk hS)
theorem cl_q {r : Option Nat} {av : Array Value} (hA : ∀ q, H0.size ≤ q → A q) (hw : Wd D A H0 ws H locs) (isC isR perm : List Nat) (hC : isC.map (fun i => ws[i]?) = wc.map some) (hR : isR.map (fun i => ws[i]?) = wr.map some) (hRn : va_nd isR = true) (hdis : ∀ i ∈ isR, i ∉ isC) (hp : perm.map (fun i => (wr ++ wc')[i]?) = ws'.map some) (hpn : va_nd perm = true)
    (hr : va_Run p l e R s m args below meth c H locs cells slots 0 0 (F0 m pc ls st0) rest (QcQ D wc' (va_A wc H.size) r av) (va_A wc H.size))
    (kk : ∀ (H1 : Heap) (locs1 : List Loc), Wd D A H0 ws' H1 locs1 → W p l e R s m args below meth c H1 locs1 cells slots Q (F0 m (pc + 3) ls (va_rf r :: rest))) : W p l e R s m args below meth c H locs cells slots Q (F0 m pc ls st0) := by
  have hF := va_free (wc := wc) hw.2.1 hw.2.2 hA isC hC
  refine va_callq (A1 := va_A wc H.size) hr hw.2.2 (fun q _ h => hF q h) hF (fun r' u t H1 locs1 ht hvm he hB hz hk hS => ?_)
  cases he
  exact kk H1 locs1 (wd_join hA hw isC isR perm hC hR hRn hdis hp hpn ht hB hk hS)
theorem cl_v {av : Array Value} (hA : ∀ q, H0.size ≤ q → A q) (hw : Wd D A H0 ws H locs) (isC isR perm : List Nat) (hC : isC.map (fun i => ws[i]?) = wc.map some) (hR : isR.map (fun i => ws[i]?) = wr.map some) (hRn : va_nd isR = true) (hdis : ∀ i ∈ isR, i ∉ isC) (hp : perm.map (fun i => (wr ++ wc')[i]?) = ws'.map some) (hpn : va_nd perm = true)
    (hr : va_Run p l e R s m args below meth c H locs cells slots 0 0 (F0 m pc ls st0) rest (QcV D wc' (va_A wc H.size) av) (va_A wc H.size))
    (kk : ∀ (H1 : Heap) (locs1 : List Loc), Wd D A H0 ws' H1 locs1 → W p l e R s m args below meth c H1 locs1 cells slots Q (F0 m (pc + 3) ls rest)) : W p l e R s m args below meth c H locs cells slots Q (F0 m pc ls st0) := by
  have hF := va_free (wc := wc) hw.2.1 hw.2.2 hA isC hC
  refine va_callv (A1 := va_A wc H.size) hr hw.2.2 (fun q _ h => hF q h) hF (fun u t H1 locs1 ht hvm he hB hz hk hS => ?_)
  exact kk H1 locs1 (wd_join hA hw isC isR perm hC hR hRn hdis hp hpn ht hB hk hS)
theorem g_get (S : CallFix p m c cc nL s args Ts own) {C : String} {T : u_T} {N ci index : Nat} (hin : ∀ w ∈ u_ws C T N, w ∈ Ts) (hK : va_K D vwCl tys s) (hw : Wd D A H0 ws H locs) (q0 k : Nat) {fs : List Value} {v : Value} (hlink : Cond.fieldLink own index (T k).1 (T k).2.1 (T k).2.2.1 ∈ Ts) (hdg : decode cc pc = .ok (.getfield index, 3)) (he : ws[q0]? = some (a, .inr (ci, fs))) (hc : vwCl[ci]? = some (C, T, N)) (hk : k < N) (hv : fs[k]? = some v)
    (kk : W p l e R s m args below meth c H locs cells slots Q (F0 m (pc + 3) ls (v :: rest))) : W p l e R s m args below meth c H locs cells slots Q (F0 m pc ls (.ref a :: rest)) :=
  va_get S.1 S.2.1 S.2.2.2.2 hin S.2.2.2.1 hK hw.1 q0 he hc k hk (S.2.2.2.2 _ hlink) (fun _ h => h) hv hdg kk
theorem g_getN (S : CallFix p m c cc nL s args Ts own) {C host : String} {T : u_T} {N ci index : Nat} (hin : ∀ w ∈ u_ws C T N, w ∈ Ts) (hK : va_K D vwCl tys s) (hN : NW s) (hw : Wd D A H0 ws H locs) (q0 k : Nat) {fs : List Value} {v : Value} (hlink : Cond.fieldLinkNest own index (T k).1 (T k).2.1 (T k).2.2.1 host ∈ nwL) (hdg : decode cc pc = .ok (.getfield index, 3)) (he : ws[q0]? = some (a, .inr (ci, fs))) (hc : vwCl[ci]? = some (C, T, N)) (hk : k < N) (hv : fs[k]? = some v)
    (kk : W p l e R s m args below meth c H locs cells slots Q (F0 m (pc + 3) ls (v :: rest))) : W p l e R s m args below meth c H locs cells slots Q (F0 m pc ls (.ref a :: rest)) :=
  va_getN S.1 S.2.1 S.2.2.2.2 hin S.2.2.2.1 hK hw.1 q0 he hc k hk (va_Nw.use rfl (hN.1 _ hlink)) (fun _ h => h) hv hdg kk
theorem g_put (S : CallFix p m c cc nL s args Ts own) {C : String} {T : u_T} {N ci index : Nat} (hin : ∀ w ∈ u_ws C T N, w ∈ Ts) (ty0 : Nat → FieldType) (hty : ∀ k, k < N → parseFieldDescriptor (T k).2.2.1 = some (ty0 k)) (hnm : ∀ a, a < N → ∀ b, b < N → a ≠ b → (T a).2.1 ≠ (T b).2.1) (hK : va_K D vwCl tys s) (hw : Wd D A H0 ws H locs) (q0 k : Nat) {fs : List Value} {v : Value} (hlink : Cond.fieldLink own index (T k).1 (T k).2.1 (T k).2.2.1 ∈ Ts) (hdg : decode cc pc = .ok (.putfield index, 3)) (he : ws[q0]? = some (a, .inr (ci, fs))) (hc : vwCl[ci]? = some (C, T, N)) (hk : k < N) (hfin : (T k).2.2.2 = false) (hn : narrow (ty0 k) v = v) (hfit : fits (ty0 k) v = true) (hl : k < fs.length) (hs : ws.set q0 (a, .inr (ci, fs.set k v)) = ws')
    (kk : ∀ (H1 : Heap) (locs1 : List Loc), Wd D A H0 ws' H1 locs1 → W p l e R s m args below meth c H1 locs1 cells slots Q (F0 m (pc + 3) ls rest)) : W p l e R s m args below meth c H locs cells slots Q (F0 m pc ls (v :: .ref a :: rest)) := by
  subst hs
  exact va_put S.1 S.2.1 S.2.2.2.2 hin ty0 hty hnm S.2.2.2.1 hK hw.1 hw.2.1 hw.2.2 q0 he hc k hk (S.2.2.2.2 _ hlink) (fun _ h => h) hfin (hty k hk) hn hfit hl hdg (fun H1 locs1 h1 h2 h3 => kk H1 locs1 ⟨h1, h2, h3⟩)
theorem g_putN (S : CallFix p m c cc nL s args Ts own) {C host : String} {T : u_T} {N ci index : Nat} (hin : ∀ w ∈ u_ws C T N, w ∈ Ts) (ty0 : Nat → FieldType) (hty : ∀ k, k < N → parseFieldDescriptor (T k).2.2.1 = some (ty0 k)) (hnm : ∀ a, a < N → ∀ b, b < N → a ≠ b → (T a).2.1 ≠ (T b).2.1) (hK : va_K D vwCl tys s) (hN : NW s) (hw : Wd D A H0 ws H locs) (q0 k : Nat) {fs : List Value} {v : Value} (hlink : Cond.fieldLinkNest own index (T k).1 (T k).2.1 (T k).2.2.1 host ∈ nwL) (hdg : decode cc pc = .ok (.putfield index, 3)) (he : ws[q0]? = some (a, .inr (ci, fs))) (hc : vwCl[ci]? = some (C, T, N)) (hk : k < N) (hfin : (T k).2.2.2 = false) (hn : narrow (ty0 k) v = v) (hfit : fits (ty0 k) v = true) (hl : k < fs.length) (hs : ws.set q0 (a, .inr (ci, fs.set k v)) = ws')
    (kk : ∀ (H1 : Heap) (locs1 : List Loc), Wd D A H0 ws' H1 locs1 → W p l e R s m args below meth c H1 locs1 cells slots Q (F0 m (pc + 3) ls rest)) : W p l e R s m args below meth c H locs cells slots Q (F0 m pc ls (v :: .ref a :: rest)) := by
  subst hs
  exact va_putN S.1 S.2.1 S.2.2.2.2 hin ty0 hty hnm S.2.2.2.1 hK hw.1 hw.2.1 hw.2.2 q0 he hc k hk (va_Nw.use rfl (hN.1 _ hlink)) (fun _ h => h) hfin (hty k hk) hn hfit hl hdg (fun H1 locs1 h1 h2 h3 => kk H1 locs1 ⟨h1, h2, h3⟩)
/-- is a place inside? -/
def inb (i : Int32) (n : Nat) : Bool := decide (¬ (i < 0 ∨ n ≤ i.toNatClampNeg))
theorem inb_in {i : Int32} {n : Nat} (h : inb i n = true) : vp_in i n := (of_decide_eq_true h : ¬ (i < 0 ∨ n ≤ i.toNatClampNeg))
def ck {α : Type} (b : Bool) (r : Option α) : Option α := match b with
  | true => r
  | false => none
theorem ck_some {α : Type} {b : Bool} {r : Option α} {z : α} (h : ck b r = some z) : b = true ∧ r = some z := by
  cases b
  · cases h
  · exact ⟨rfl, h⟩
theorem g_iald (S : CallFix p m c cc nL s args Ts own) (hK : va_K D vwCl tys s) (hw : Wd D A H0 ws H locs) (q0 t0 : Nat) {cA : ClassId} {n : Nat} {f : Nat → Int32} {i : Int32} (hin : inb i n = true) (hdg : decode cc pc = .ok (.iaload, 1)) (ha : ws[q0]? = some (a, .inl (cA, n, .inl f))) (ht : tys[t0]? = some (cA, .int))
    (kk : W p l e R s m args below meth c H locs cells slots Q (F0 m (pc + 1) ls (.int (f i.toNatClampNeg) :: rest))) : W p l e R s m args below meth c H locs cells slots Q (F0 m pc ls (.int i :: .ref a :: rest)) := va_iald S.1 S.2.1 hK hw.1 q0 t0 ha ht (inb_in hin) hdg kk
theorem g_zald (S : CallFix p m c cc nL s args Ts own) (hK : va_K D vwCl tys s) (hw : Wd D A H0 ws H locs) (q0 t0 : Nat) {cA : ClassId} {n : Nat} {f : Nat → Int32} {i : Int32} (hin : inb i n = true) (hdg : decode cc pc = .ok (.baload, 1)) (ha : ws[q0]? = some (a, .inl (cA, n, .inl f))) (ht : tys[t0]? = some (cA, .boolean))
    (kk : W p l e R s m args below meth c H locs cells slots Q (F0 m (pc + 1) ls (.int (f i.toNatClampNeg) :: rest))) : W p l e R s m args below meth c H locs cells slots Q (F0 m pc ls (.int i :: .ref a :: rest)) := va_zald S.1 S.2.1 hK hw.1 q0 t0 ha ht (inb_in hin) hdg kk
theorem g_lald (S : CallFix p m c cc nL s args Ts own) (hK : va_K D vwCl tys s) (hw : Wd D A H0 ws H locs) (q0 t0 : Nat) {cA : ClassId} {n : Nat} {f : Nat → Int64} {i : Int32} (hin : inb i n = true) (hdg : decode cc pc = .ok (.laload, 1)) (ha : ws[q0]? = some (a, .inl (cA, n, .inr (.inl f)))) (ht : tys[t0]? = some (cA, .long))
    (kk : W p l e R s m args below meth c H locs cells slots Q (F0 m (pc + 1) ls (.long (f i.toNatClampNeg) :: rest))) : W p l e R s m args below meth c H locs cells slots Q (F0 m pc ls (.int i :: .ref a :: rest)) := va_lald S.1 S.2.1 hK hw.1 q0 t0 ha ht (inb_in hin) hdg kk
theorem g_iast (S : CallFix p m c cc nL s args Ts own) (hK : va_K D vwCl tys s) (hw : Wd D A H0 ws H locs) (q0 t0 : Nat) {cA : ClassId} {n : Nat} {f : Nat → Int32} {i x : Int32} (hin : inb i n = true) (hdg : decode cc pc = .ok (.iastore, 1)) (ha : ws[q0]? = some (a, .inl (cA, n, .inl f))) (ht : tys[t0]? = some (cA, .int)) (hs : ws.set q0 (a, .inl (cA, n, .inl (upd f i.toNatClampNeg x))) = ws')
    (kk : ∀ (H1 : Heap) (locs1 : List Loc), Wd D A H0 ws' H1 locs1 → W p l e R s m args below meth c H1 locs1 cells slots Q (F0 m (pc + 1) ls rest)) : W p l e R s m args below meth c H locs cells slots Q (F0 m pc ls (.int x :: .int i :: .ref a :: rest)) := by
  subst hs
  exact va_iast S.1 S.2.1 hK hw.1 hw.2.1 hw.2.2 q0 t0 ha ht (inb_in hin) hdg (fun H1 locs1 h1 h2 h3 => kk H1 locs1 ⟨h1, h2, h3⟩)
theorem g_zast (S : CallFix p m c cc nL s args Ts own) (hK : va_K D vwCl tys s) (hw : Wd D A H0 ws H locs) (q0 t0 : Nat) {cA : ClassId} {n : Nat} {f : Nat → Int32} {i x : Int32} (hin : inb i n = true) (hdg : decode cc pc = .ok (.bastore, 1)) (ha : ws[q0]? = some (a, .inl (cA, n, .inl f))) (ht : tys[t0]? = some (cA, .boolean)) (hs : ws.set q0 (a, .inl (cA, n, .inl (upd f i.toNatClampNeg (vp_nar .boolean x)))) = ws')
    (kk : ∀ (H1 : Heap) (locs1 : List Loc), Wd D A H0 ws' H1 locs1 → W p l e R s m args below meth c H1 locs1 cells slots Q (F0 m (pc + 1) ls rest)) : W p l e R s m args below meth c H locs cells slots Q (F0 m pc ls (.int x :: .int i :: .ref a :: rest)) := by
  subst hs
  exact va_zast S.1 S.2.1 hK hw.1 hw.2.1 hw.2.2 q0 t0 ha ht (inb_in hin) hdg (fun H1 locs1 h1 h2 h3 => kk H1 locs1 ⟨h1, h2, h3⟩)
theorem g_last (S : CallFix p m c cc nL s args Ts own) (hK : va_K D vwCl tys s) (hw : Wd D A H0 ws H locs) (q0 t0 : Nat) {cA : ClassId} {n : Nat} {f : Nat → Int64} {i : Int32} {x : Int64} (hin : inb i n = true) (hdg : decode cc pc = .ok (.lastore, 1)) (ha : ws[q0]? = some (a, .inl (cA, n, .inr (.inl f)))) (ht : tys[t0]? = some (cA, .long)) (hs : ws.set q0 (a, .inl (cA, n, .inr (.inl (vp_updL f i.toNatClampNeg x)))) = ws')
    (kk : ∀ (H1 : Heap) (locs1 : List Loc), Wd D A H0 ws' H1 locs1 → W p l e R s m args below meth c H1 locs1 cells slots Q (F0 m (pc + 1) ls rest)) : W p l e R s m args below meth c H locs cells slots Q (F0 m pc ls (.long x :: .int i :: .ref a :: rest)) := by
  subst hs
  exact va_last S.1 S.2.1 hK hw.1 hw.2.1 hw.2.2 q0 t0 ha ht (inb_in hin) hdg (fun H1 locs1 h1 h2 h3 => kk H1 locs1 ⟨h1, h2, h3⟩)
theorem rt_i {r : Int32} (S : CallFix p m c cc nL s args Ts own) (hr : meth.sig.returnType = some .int) (hlk : meth.locks = false) (hw : Wd D A s.heap ws H locs) (hdg : decode cc pc = .ok (.ireturn, 1)) : W p l e R s m args below meth c H locs cells slots (MQ below (QcI D ws A r) args s cells slots A) (F0 m pc ls [.int r]) :=
  W.iret (v := r) S.1 S.2.1 hr (fun _ ht _ => ⟨⟨r, (), rfl, rfl, by rw [ht]; exact hw.1, hw.2.1⟩, hw.2.2.F ht⟩) hw.2.2.2.2 hdg hlk
theorem rt_z {r : Int32} (S : CallFix p m c cc nL s args Ts own) (hr : meth.sig.returnType = some .boolean) (hlk : meth.locks = false) (hw : Wd D A s.heap ws H locs) (hdg : decode cc pc = .ok (.ireturn, 1)) (hn : narrow .boolean (.int r) = .int r) : W p l e R s m args below meth c H locs cells slots (MQ below (QcI D ws A r) args s cells slots A) (F0 m pc ls [.int r]) :=
  W.zret (v := r) S.1 S.2.1 hr hn (fun _ ht _ => ⟨⟨r, (), rfl, rfl, by rw [ht]; exact hw.1, hw.2.1⟩, hw.2.2.F ht⟩) hw.2.2.2.2 hdg hlk
theorem rt_l {r : Int64} (S : CallFix p m c cc nL s args Ts own) (hr : meth.sig.returnType = some .long) (hlk : meth.locks = false) (hw : Wd D A s.heap ws H locs) (hdg : decode cc pc = .ok (.lreturn, 1)) : W p l e R s m args below meth c H locs cells slots (MQ below (QcL D ws A r) args s cells slots A) (F0 m pc ls [.long r]) :=
  W.lret (v := r) S.1 S.2.1 hr (fun _ ht _ => ⟨⟨r, (), rfl, rfl, by rw [ht]; exact hw.1, hw.2.1⟩, hw.2.2.F ht⟩) hw.2.2.2.2 hdg hlk
theorem rt_v (S : CallFix p m c cc nL s args Ts own) (hr : meth.sig.returnType = none) (hlk : meth.locks = false) (hw : Wd D A s.heap ws H locs) (hdg : decode cc pc = .ok (.return_, 1)) : W p l e R s m args below meth c H locs cells slots (MQ below (QcV D ws A) args s cells slots A) (F0 m pc ls []) :=
  W.vret S.1 S.2.1 hr (fun _ ht _ => ⟨⟨(), rfl, trivial, by rw [ht]; exact hw.1, hw.2.1⟩, hw.2.2.F ht⟩) hw.2.2.2.2 hdg hlk
/-- a contract out of a walk from the first instruction -/
theorem ctr {y : MethodName} {wS wS' : List Cond} {rm : Room} {av : List Value} {sz mc ms maxL : Nat} {Qc : Array Value → State → Outcome → State → Prop} {ret : Option FieldType} (hy : plainName y.cls = true) (hwS : wS = Cond.code y cc maxL ret :: wS') (hlen : (lg_sl av).length ≤ maxL)
    (body : ∀ (p : Program) (e : Env) (s : State) (m : MethodId) (below : List Frame) (meth : Method) (c : Code), CallFix p m c cc maxL s av.toArray wS y.cls → meth.sig.returnType = ret → meth.locks = false → meth.name = y.name → va_K D vwCl tys s → NW s → s.heap.size = sz → (∀ q, s.heap.size ≤ q → va_A wc sz q) → Wd D (va_A wc sz) s.heap wc s.heap [] → ∀ (ls : Array Slot), lv_has ls maxL (lv_args 0 av) → W p l e rm s m av.toArray below meth c s.heap [] 0 0 (MQ below Qc av.toArray s mc ms (va_A wc sz)) (F0 m 0 ls [])) : Met l y wS rm (PreC D tys av wc sz) Qc mc ms (va_A wc sz) := by
  refine Met.ofW (cc := cc) (maxL := maxL) (ret := ret) hy hwS ?_
  intro p e s m args below meth c s₁ B hml hv
  obtain ⟨rfl, hsz, hP, hK, hD0, hN⟩ := hv
  have hts := atoms_spec (ws := wS) B.pre
  have hown : s.vm.findClass y.cls = some m.cls := findClass_of_methodNamed B.named
  have hl := lv_entry av (n := maxL) hlen
  rw [lg_entry_eq]
  exact body p e s m below meth c ⟨B.exec, B.bytes, hml, hown, hts⟩ B.returns B.notSynchronized (name_of_methodNamed B.named B.method).1 hK hN hsz (fun q h => Or.inr (by rw [← hsz]; exact h)) ⟨hP, hD0.self, va_S.rf⟩ _ hl
end HB
def bd1 {α β : Type} (o : Option α) (k : α → Option β) : Option β := match o with
  | some a => k a
  | none => none
def bd2 {α β γ : Type} (o : Option (α × β)) (k : α → β → Option γ) : Option γ := match o with
  | some (a, b) => k a b
  | none => none
def bd3 {α β γ δ : Type} (o : Option (α × β × γ)) (k : α → β → γ → Option δ) : Option δ := match o with
  | some (a, b, c) => k a b c
  | none => none
def bd4 {α β γ δ ε : Type} (o : Option (α × β × γ × δ)) (k : α → β → γ → δ → Option ε) : Option ε := match o with
  | some (a, b, c, d) => k a b c d
  | none => none
def bd5 {α β γ δ ε ζ : Type} (o : Option (α × β × γ × δ × ε)) (k : α → β → γ → δ → ε → Option ζ) : Option ζ := match o with
  | some (a, b, c, d, e) => k a b c d e
  | none => none
def bd6 {α β γ δ ε ζ η : Type} (o : Option (α × β × γ × δ × ε × ζ)) (k : α → β → γ → δ → ε → ζ → Option η) : Option η := match o with
  | some (a, b, c, d, e, f) => k a b c d e f
  | none => none
def bd7 {α β γ δ ε ζ η θ : Type} (o : Option (α × β × γ × δ × ε × ζ × η)) (k : α → β → γ → δ → ε → ζ → η → Option θ) : Option θ := match o with
  | some (a, b, c, d, e, f, g) => k a b c d e f g
  | none => none
theorem bd1_some {α β : Type} {o : Option α} {k : α → Option β} {z : β} (h : bd1 o k = some z) : ∃ a, o = some a ∧ k a = some z := by
  cases o with
  | none => cases h
  | some o => exact ⟨o, rfl, h⟩
theorem bd2_some {α β γ : Type} {o : Option (α × β)} {k : α → β → Option γ} {z : γ} (h : bd2 o k = some z) : ∃ a b, o = some (a, b) ∧ k a b = some z := by
  cases o with
  | none => cases h
  | some o => exact ⟨o.1, o.2, rfl, h⟩
theorem bd3_some {α β γ δ : Type} {o : Option (α × β × γ)} {k : α → β → γ → Option δ} {z : δ} (h : bd3 o k = some z) : ∃ a b c, o = some (a, b, c) ∧ k a b c = some z := by
  cases o with
  | none => cases h
  | some o => exact ⟨o.1, o.2.1, o.2.2, rfl, h⟩
theorem bd4_some {α β γ δ ε : Type} {o : Option (α × β × γ × δ)} {k : α → β → γ → δ → Option ε} {z : ε} (h : bd4 o k = some z) : ∃ a b c d, o = some (a, b, c, d) ∧ k a b c d = some z := by
  cases o with
  | none => cases h
  | some o => exact ⟨o.1, o.2.1, o.2.2.1, o.2.2.2, rfl, h⟩
theorem bd5_some {α β γ δ ε ζ : Type} {o : Option (α × β × γ × δ × ε)} {k : α → β → γ → δ → ε → Option ζ} {z : ζ} (h : bd5 o k = some z) : ∃ a b c d e, o = some (a, b, c, d, e) ∧ k a b c d e = some z := by
  cases o with
  | none => cases h
  | some o => exact ⟨o.1, o.2.1, o.2.2.1, o.2.2.2.1, o.2.2.2.2, rfl, h⟩
theorem bd6_some {α β γ δ ε ζ η : Type} {o : Option (α × β × γ × δ × ε × ζ)} {k : α → β → γ → δ → ε → ζ → Option η} {z : η} (h : bd6 o k = some z) : ∃ a b c d e f, o = some (a, b, c, d, e, f) ∧ k a b c d e f = some z := by
  cases o with
  | none => cases h
  | some o => exact ⟨o.1, o.2.1, o.2.2.1, o.2.2.2.1, o.2.2.2.2.1, o.2.2.2.2.2, rfl, h⟩
theorem bd7_some {α β γ δ ε ζ η θ : Type} {o : Option (α × β × γ × δ × ε × ζ × η)} {k : α → β → γ → δ → ε → ζ → η → Option θ} {z : θ} (h : bd7 o k = some z) : ∃ a b c d e f g, o = some (a, b, c, d, e, f, g) ∧ k a b c d e f g = some z := by
  cases o with
  | none => cases h
  | some o => exact ⟨o.1, o.2.1, o.2.2.1, o.2.2.2.1, o.2.2.2.2.1, o.2.2.2.2.2.1, o.2.2.2.2.2.2, rfl, h⟩
def ushI (x y : Int32) : Int32 := (x.toUInt32 >>> (y.toUInt32 &&& Int32.toUInt32 31)).toInt32
def ushL (x : Int64) (y : Int32) : Int64 := (x.toUInt64 >>> (y.toInt64.toUInt64 &&& Int64.toUInt64 63)).toInt64
def shlL (x : Int64) (y : Int32) : Int64 := x <<< (y.toInt64 &&& 63)
def mnI (x y : Int32) : Int32 := if y < x then y else x
def mxI (x y : Int32) : Int32 := if x < y then y else x
def shOf (s : Int32) (g : Nat → Option Nat) : Option Nat := if s < 0 then none else if (4 : Int32) ≤ s then none else g s.toNatClampNeg
theorem sw_ne {x k : Int32} {z : Int} (h : ¬ x = k) (hz : k.toInt = z) : x.toInt ≠ z := fun e => h (Int32.toInt_inj.mp (e.trans hz.symm))
def cpok (sp dp n : Int32) (a b : Nat) : Bool := decide (¬ sp < 0 ∧ ¬ dp < 0 ∧ ¬ n < 0 ∧ sp.toNatClampNeg + n.toNatClampNeg ≤ a ∧ dp.toNatClampNeg + n.toNatClampNeg ≤ b)
theorem cpok_all {sp dp n : Int32} {a b : Nat} (h : cpok sp dp n a b = true) : ¬ sp < 0 ∧ ¬ dp < 0 ∧ ¬ n < 0 ∧ sp.toNatClampNeg + n.toNatClampNeg ≤ a ∧ dp.toNatClampNeg + n.toNatClampNeg ≤ b := of_decide_eq_true h
theorem cpok_1 {sp dp n : Int32} {a b : Nat} (h : cpok sp dp n a b = true) : ¬ sp < 0 := (cpok_all h).1
theorem cpok_2 {sp dp n : Int32} {a b : Nat} (h : cpok sp dp n a b = true) : ¬ dp < 0 := (cpok_all h).2.1
theorem cpok_3 {sp dp n : Int32} {a b : Nat} (h : cpok sp dp n a b = true) : ¬ n < 0 := (cpok_all h).2.2.1
theorem cpok_4 {sp dp n : Int32} {a b : Nat} (h : cpok sp dp n a b = true) : sp.toNatClampNeg + n.toNatClampNeg ≤ a := (cpok_all h).2.2.2.1
theorem cpok_5 {sp dp n : Int32} {a b : Nat} (h : cpok sp dp n a b = true) : dp.toNatClampNeg + n.toNatClampNeg ≤ b := (cpok_all h).2.2.2.2
theorem pr2 {A0 A1 : Type} {a0 b0 : A0} {a1 b1 : A1} (h : (a0, a1) = (b0, b1)) : a0 = b0 ∧ a1 = b1 := by
  injection h with h0 t0
  exact ⟨h0, t0⟩
theorem pr3 {A0 A1 A2 : Type} {a0 b0 : A0} {a1 b1 : A1} {a2 b2 : A2} (h : (a0, a1, a2) = (b0, b1, b2)) : a0 = b0 ∧ a1 = b1 ∧ a2 = b2 := by
  injection h with h0 t0
  injection t0 with h1 t1
  exact ⟨h0, h1, t1⟩
theorem pr4 {A0 A1 A2 A3 : Type} {a0 b0 : A0} {a1 b1 : A1} {a2 b2 : A2} {a3 b3 : A3} (h : (a0, a1, a2, a3) = (b0, b1, b2, b3)) : a0 = b0 ∧ a1 = b1 ∧ a2 = b2 ∧ a3 = b3 := by
  injection h with h0 t0
  injection t0 with h1 t1
  injection t1 with h2 t2
  exact ⟨h0, h1, h2, t2⟩
theorem pr5 {A0 A1 A2 A3 A4 : Type} {a0 b0 : A0} {a1 b1 : A1} {a2 b2 : A2} {a3 b3 : A3} {a4 b4 : A4} (h : (a0, a1, a2, a3, a4) = (b0, b1, b2, b3, b4)) : a0 = b0 ∧ a1 = b1 ∧ a2 = b2 ∧ a3 = b3 ∧ a4 = b4 := by
  injection h with h0 t0
  injection t0 with h1 t1
  injection t1 with h2 t2
  injection t2 with h3 t3
  exact ⟨h0, h1, h2, h3, t3⟩
theorem pr6 {A0 A1 A2 A3 A4 A5 : Type} {a0 b0 : A0} {a1 b1 : A1} {a2 b2 : A2} {a3 b3 : A3} {a4 b4 : A4} {a5 b5 : A5} (h : (a0, a1, a2, a3, a4, a5) = (b0, b1, b2, b3, b4, b5)) : a0 = b0 ∧ a1 = b1 ∧ a2 = b2 ∧ a3 = b3 ∧ a4 = b4 ∧ a5 = b5 := by
  injection h with h0 t0
  injection t0 with h1 t1
  injection t1 with h2 t2
  injection t2 with h3 t3
  injection t3 with h4 t4
  exact ⟨h0, h1, h2, h3, h4, t4⟩
theorem pr7 {A0 A1 A2 A3 A4 A5 A6 : Type} {a0 b0 : A0} {a1 b1 : A1} {a2 b2 : A2} {a3 b3 : A3} {a4 b4 : A4} {a5 b5 : A5} {a6 b6 : A6} (h : (a0, a1, a2, a3, a4, a5, a6) = (b0, b1, b2, b3, b4, b5, b6)) : a0 = b0 ∧ a1 = b1 ∧ a2 = b2 ∧ a3 = b3 ∧ a4 = b4 ∧ a5 = b5 ∧ a6 = b6 := by
  injection h with h0 t0
  injection t0 with h1 t1
  injection t1 with h2 t2
  injection t2 with h3 t3
  injection t3 with h4 t4
  injection t4 with h5 t5
  exact ⟨h0, h1, h2, h3, h4, h5, t5⟩
theorem pr8 {A0 A1 A2 A3 A4 A5 A6 A7 : Type} {a0 b0 : A0} {a1 b1 : A1} {a2 b2 : A2} {a3 b3 : A3} {a4 b4 : A4} {a5 b5 : A5} {a6 b6 : A6} {a7 b7 : A7} (h : (a0, a1, a2, a3, a4, a5, a6, a7) = (b0, b1, b2, b3, b4, b5, b6, b7)) : a0 = b0 ∧ a1 = b1 ∧ a2 = b2 ∧ a3 = b3 ∧ a4 = b4 ∧ a5 = b5 ∧ a6 = b6 ∧ a7 = b7 := by
  injection h with h0 t0
  injection t0 with h1 t1
  injection t1 with h2 t2
  injection t2 with h3 t3
  injection t3 with h4 t4
  injection t4 with h5 t5
  injection t5 with h6 t6
  exact ⟨h0, h1, h2, h3, h4, h5, h6, t6⟩
def bd8 {A0 A1 A2 A3 A4 A5 A6 A7 B : Type} (o : Option (A0 × A1 × A2 × A3 × A4 × A5 × A6 × A7)) (k : A0 → A1 → A2 → A3 → A4 → A5 → A6 → A7 → Option B) : Option B := match o with
  | some (a, b, c, d, e, f, g, h) => k a b c d e f g h
  | none => none
theorem bd8_some {A0 A1 A2 A3 A4 A5 A6 A7 B : Type} {o : Option (A0 × A1 × A2 × A3 × A4 × A5 × A6 × A7)} {k : A0 → A1 → A2 → A3 → A4 → A5 → A6 → A7 → Option B} {z : B} (h : bd8 o k = some z) : ∃ a b c d e f g i, o = some (a, b, c, d, e, f, g, i) ∧ k a b c d e f g i = some z := by
  cases o with
  | none => cases h
  | some o => exact ⟨o.1, o.2.1, o.2.2.1, o.2.2.2.1, o.2.2.2.2.1, o.2.2.2.2.2.1, o.2.2.2.2.2.2.1, o.2.2.2.2.2.2.2, rfl, h⟩
end
section
theorem nw_X2_22 : Cond.fieldLinkNest RX2 22 "BallBoxes$Ring" "size" "I" "BallBoxes" ∈ nwL := by decide +kernel
theorem nw_X2_26 : Cond.fieldLinkNest RX2 26 "BallBoxes$Ring" "bits" "J" "BallBoxes" ∈ nwL := by decide +kernel
theorem nw_X6_104 : Cond.fieldLinkNest RX6 104 "BallBoxes$Strings" "size" "I" "BallBoxes" ∈ nwL := by decide +kernel
theorem nw_X6_117 : Cond.fieldLinkNest RX6 117 "BallBoxes$Strings" "boxesRead" "I" "BallBoxes" ∈ nwL := by decide +kernel
theorem nw_X6_189 : Cond.fieldLinkNest RX6 189 "BallBoxes$Sheet" "lost" "Z" "BallBoxes" ∈ nwL := by decide +kernel
theorem nw_X6_193 : Cond.fieldLinkNest RX6 193 "BallBoxes$Sheet" "size" "I" "BallBoxes" ∈ nwL := by decide +kernel
theorem nw_X6_202 : Cond.fieldLinkNest RX6 202 "BallBoxes$Sheet" "form" "I" "BallBoxes" ∈ nwL := by decide +kernel
theorem nw_X6_208 : Cond.fieldLinkNest RX6 208 "BallBoxes$Sheet" "items" "[I" "BallBoxes" ∈ nwL := by decide +kernel
theorem nw_X6_223 : Cond.fieldLinkNest RX6 223 "BallBoxes$Ring" "size" "I" "BallBoxes" ∈ nwL := by decide +kernel
theorem nw_X6_224 : Cond.fieldLinkNest RX6 224 "BallBoxes$Ring" "bits" "J" "BallBoxes" ∈ nwL := by decide +kernel
theorem nw_X1_31 : Cond.methodLinkNest RX1 31 yX6_loadBehind "BallBoxes" ∈ nwL := by decide +kernel
theorem nw_X2_11 : Cond.methodLinkNest RX2 11 yX1_init "BallBoxes" ∈ nwL := by decide +kernel
theorem nw_X3_18 : Cond.methodLinkNest RX3 18 yX6_isBox "BallBoxes" ∈ nwL := by decide +kernel
theorem nw_X3_26 : Cond.methodLinkNest RX3 26 yX6_loadBehind "BallBoxes" ∈ nwL := by decide +kernel
theorem nw_X6_9 : Cond.methodLinkNest RX6 9 yX3_init "BallBoxes" ∈ nwL := by decide +kernel
theorem nw_X6_18 : Cond.methodLinkNest RX6 18 yX0_init "BallBoxes" ∈ nwL := by decide +kernel
theorem nw_X6_25 : Cond.methodLinkNest RX6 25 yX5_init "BallBoxes" ∈ nwL := by decide +kernel
theorem nw_X6_35 : Cond.methodLinkNest RX6 35 yX1_init "BallBoxes" ∈ nwL := by decide +kernel
theorem nw_X6_42 : Cond.methodLinkNest RX6 42 yX2_init "BallBoxes" ∈ nwL := by decide +kernel
theorem nw_X6_53 : Cond.methodLinkNest RX6 53 yX4_init "BallBoxes" ∈ nwL := by decide +kernel
end
section
theorem pr9 {A0 A1 A2 A3 A4 A5 A6 A7 A8 : Type} {a0 b0 : A0} {a1 b1 : A1} {a2 b2 : A2} {a3 b3 : A3} {a4 b4 : A4} {a5 b5 : A5} {a6 b6 : A6} {a7 b7 : A7} {a8 b8 : A8} (h : (a0, a1, a2, a3, a4, a5, a6, a7, a8) = (b0, b1, b2, b3, b4, b5, b6, b7, b8)) : a0 = b0 ∧ a1 = b1 ∧ a2 = b2 ∧ a3 = b3 ∧ a4 = b4 ∧ a5 = b5 ∧ a6 = b6 ∧ a7 = b7 ∧ a8 = b8 := by
  injection h with h0 t0
  injection t0 with h1 t1
  injection t1 with h2 t2
  injection t2 with h3 t3
  injection t3 with h4 t4
  injection t4 with h5 t5
  injection t5 with h6 t6
  injection t6 with h7 t7
  exact ⟨h0, h1, h2, h3, h4, h5, h6, h7, t7⟩
theorem rt_q {p : Program} {l : Launch} {e : Env} {R : Room} {s : State} {m : MethodId} {args : Array Value} {below : List Frame} {meth : Method} {c : Code} {H : Heap} {locs : List Loc} {cells slots : Nat} {cc : ByteArray} {nL : Nat} {Ts : List Cond} {own : String} {D : va_G} {A : Nat → Prop} {ws : va_W} {pc : Nat} {ls : Array Slot} {r : Option Nat} {C : String} (S : CallFix p m c cc nL s args Ts own) (hr : meth.sig.returnType = some (.object C)) (hlk : meth.locks = false) (hw : Wd D A s.heap ws H locs) (hdg : decode cc pc = .ok (.areturn, 1)) : W p l e R s m args below meth c H locs cells slots (MQ below (QcQ D ws A r) args s cells slots A) (F0 m pc ls [va_rf r]) :=
  W.aret (v := va_rf r) S.1 S.2.1 hr (Or.inl ⟨_, rfl⟩) (va_rf_or r) (fun _ ht _ => ⟨⟨r, (), rfl, rfl, by rw [ht]; exact hw.1, hw.2.1⟩, hw.2.2.F ht⟩) hw.2.2.2.2 hdg hlk
set_option maxHeartbeats 4000000 in
set_option maxRecDepth 100000 in
theorem c_X6_sheetOf (l : Launch) (D : va_G) (cI cZ cJ cO : ClassId) (sz : Nat) (q1 q2 q3 q4 q5 q6 q7 : Nat) (mv lf : Int32) (q_t : Nat) (g : Nat → Option Nat) (p1 : Int32) : Met l yX6_sheetOf wsX6_sheetOf ({ frames := 0, cells := 0, slots := 0, locals := 0 }) (PreC D (TY cI cZ cJ cO) [.ref q_t, .int p1] [(q_t, .inr (6, [.ref q1, .ref q2, .ref q3, .ref q4, .ref q5, .ref q6, .ref q7, .int mv, .int lf])), (q7, .inl (cO, 4, .inr (.inr (.inr (.inr g)))))] sz) (QcQ D [(q_t, .inr (6, [.ref q1, .ref q2, .ref q3, .ref q4, .ref q5, .ref q6, .ref q7, .int mv, .int lf])), (q7, .inl (cO, 4, .inr (.inr (.inr (.inr g)))))] (va_A [(q_t, .inr (6, [.ref q1, .ref q2, .ref q3, .ref q4, .ref q5, .ref q6, .ref q7, .int mv, .int lf])), (q7, .inl (cO, 4, .inr (.inr (.inr (.inr g)))))] sz) (shOf p1 g)) 0 0 (va_A [(q_t, .inr (6, [.ref q1, .ref q2, .ref q3, .ref q4, .ref q5, .ref q6, .ref q7, .int mv, .int lf])), (q7, .inl (cO, 4, .inr (.inr (.inr (.inr g)))))] sz) := by
  refine ctr (cc := cX6_sheetOf) (maxL := 2) (ret := (some (.object "BallBoxes$Sheet"))) (by decide) rfl (Nat.le_of_ble_eq_true rfl) ?_
  intro p e s m below meth c S hr hlk hnm hK hN hsz hA hw ls hl
  generalize va_A [(q_t, .inr (6, [.ref q1, .ref q2, .ref q3, .ref q4, .ref q5, .ref q6, .ref q7, .int mv, .int lf])), (q7, .inl (cO, 4, .inr (.inr (.inr (.inr g)))))] sz = A at hA hw ⊢
  have S : CallFix p m c cX6_sheetOf 2 s ([.ref q_t, .int p1] : List Value).toArray wsX6_sheetOf RX6 := S
  have hx := S.1
  have hb := S.2.1
  have hts := S.2.2.2.2
  have hl : lv_has ls 2 [(0, .ref q_t), (1, .int p1)] := hl
  have hinX6 : ∀ w ∈ u_ws RX6 TX6 9, w ∈ wsX6_sheetOf := by decide +kernel
  have k49 : Cond.fieldLink RX6 49 "BallBoxes" "sheets" "[LBallBoxes$Sheet;" ∈ wsX6_sheetOf := by decide +kernel
  refine lv_iload_n hx hb dX6_sheetOf_0 rfl (lv_at hl 1 rfl) ?_
  refine lv_if_lt (tgt := 22) hx hb dX6_sheetOf_1 (by decide) (fun c1 => ?_) (fun c1 => ?_)
  · rw [show shOf p1 g = none by unfold shOf; rw [if_pos c1]]
    refine lv_null hx hb dX6_sheetOf_22 ?_
    exact rt_q (r := none) S hr hlk hw dX6_sheetOf_23
  · refine lv_iload_n hx hb dX6_sheetOf_4 rfl (lv_at hl 1 rfl) ?_
    refine lv_aload_n hx hb dX6_sheetOf_5 rfl (lv_at hl 0 rfl) ?_
    refine g_get (ci := 6) (C := RX6) (T := TX6) (N := 9) S hinX6 hK hw 0 6 k49 dX6_sheetOf_6 rfl rfl (by decide) rfl ?_
    refine va_alen hx hb hK hw.1 1 3 rfl rfl (v := (4 : Int32)) rfl dX6_sheetOf_9 ?_
    refine lv_icmp_ge (tgt := 22) hx hb dX6_sheetOf_10 (by decide) (fun c2 => ?_) (fun c2 => ?_)
    · rw [show shOf p1 g = none by unfold shOf; rw [if_neg c1, if_pos c2]]
      refine lv_null hx hb dX6_sheetOf_22 ?_
      exact rt_q (r := none) S hr hlk hw dX6_sheetOf_23
    · rw [show shOf p1 g = g p1.toNatClampNeg by unfold shOf; rw [if_neg c1, if_neg c2]]
      refine lv_aload_n hx hb dX6_sheetOf_13 rfl (lv_at hl 0 rfl) ?_
      refine g_get (ci := 6) (C := RX6) (T := TX6) (N := 9) S hinX6 hK hw 0 6 k49 dX6_sheetOf_14 rfl rfl (by decide) rfl ?_
      refine lv_iload_n hx hb dX6_sheetOf_17 rfl (lv_at hl 1 rfl) ?_
      have hv : vp_in p1 4 := by
        rcases pk_ix p1 (n := 4) (by decide) with h | h | ⟨j, hj, rfl⟩
        · exact absurd h c1
        · exact absurd h c2
        · exact vp_in_nI hj (by decide)
      refine va_aldq hx hb hK hw.1 1 3 rfl rfl hv dX6_sheetOf_18 ?_
      refine lv_goto (tgt := 23) hx hb dX6_sheetOf_19 (by decide) ?_
      exact rt_q S hr hlk hw dX6_sheetOf_23
end
section
/-! what constructors need -/
def QcN {σ : Type} (D : va_G) (wf : σ → va_W) (A : Nat → Prop) : Array Value → State → Outcome → State → Prop := va_Qv (fun (_ : σ) => True) (fun u t => va_P D vwCl (wf u) t.heap ∧ va_D A (wf u)) A
section HC
variable {p : Program} {l : Launch} {e : Env} {R : Room} {s : State} {m : MethodId} {args : Array Value} {below : List Frame} {meth : Method} {c : Code} {H H0 : Heap} {locs : List Loc} {cells slots : Nat} {Q : State → Prop} {cc : ByteArray} {nL : Nat} {Ts : List Cond} {own : String} {D : va_G} {tys : List (ClassId × FieldType)} {A : Nat → Prop} {ws wc wr ws' : va_W} {pc : Nat} {ls : Array Slot} {rest st0 : List Value} {a : Nat}
theorem cl_n {σ : Type} {wf ws2 : σ → va_W} {mc ms : Nat} {av : Array Value} (hA : ∀ q, H0.size ≤ q → A q) (hw : Wd D A H0 ws H locs) (isC isR perm : List Nat) (hC : isC.map (fun i => ws[i]?) = wc.map some) (hR : isR.map (fun i => ws[i]?) = wr.map some) (hRn : va_nd isR = true) (hdis : ∀ i ∈ isR, i ∉ isC) (hp : ∀ u, perm.map (fun i => (wr ++ wf u)[i]?) = (ws2 u).map some) (hpn : va_nd perm = true)
    (hr : va_Run p l e R s m args below meth c H locs cells slots mc ms (F0 m pc ls st0) rest (QcN D wf (va_A wc H.size) av) (va_A wc H.size))
    (kk : ∀ (u : σ) (H1 : Heap) (locs1 : List Loc), Wd D A H0 (ws2 u) H1 locs1 → W p l e R s m args below meth c H1 locs1 (cells + mc) (slots + ms) Q (F0 m (pc + 3) ls rest)) : W p l e R s m args below meth c H locs cells slots Q (F0 m pc ls st0) := by
  have hF := va_free (wc := wc) hw.2.1 hw.2.2 hA isC hC
  refine va_callv (A1 := va_A wc H.size) hr hw.2.2 (fun q _ h => hF q h) hF (fun u t H1 locs1 ht hvm he hB hz hk hS => ?_)
  exact kk u H1 locs1 (wd_join hA hw isC isR perm hC hR hRn hdis (hp u) hpn ht hB hk hS)
theorem g_newa (S : CallFix p m c cc nL s args Ts own) {atype : ArrayType} {ty : FieldType} (hty : newarray.typeOf atype = ty) (harr : Cond.arrayClass ty ∈ Ts) (hK : va_K D vwCl tys s) (hw : Wd D A H0 ws H locs) (hA : ∀ q, H0.size ≤ q → A q) (t0 : Nat) {cA : ClassId} (ht : tys[t0]? = some (cA, ty)) (hu : ∀ c1 c2 : ClassId, va_RA s c1 ty → va_RA s c2 ty → c1 = c2)
    {n : Int32} {N' : Nat} {a0 : vp_A} (ha : ∀ cA : ClassId, vp_cell cA a0 = arrV cA N' (fun _ => defaultValue ty)) (hn : ¬ n < 0) (hN : n.toNatClampNeg = N') (hbytes : N' * componentBytes ty ≤ 536870912) (hcells : cells + 1 ≤ R.cells) (hslots : slots + N' ≤ R.slots) (hdg : decode cc pc = .ok (.newarray atype, 2))
    (kk : ∀ (q : Nat) (H1 : Heap), Wd D A H0 (ws ++ [(q, .inl (cA, a0))]) H1 locs → W p l e R s m args below meth c H1 locs (cells + 1) (slots + N') Q (F0 m (pc + 2) ls (.ref q :: rest))) : W p l e R s m args below meth c H locs cells slots Q (F0 m pc ls (.int n :: rest)) := by
  subst hty
  refine va_newa S.1 S.2.1 (S.2.2.2.2 _ harr) rfl hK hw.1 hw.2.1 hw.2.2 hA ha hn hN hbytes hcells hslots hdg (fun q cB H1 hK1 h1 h2 h3 => ?_)
  have e1 := (hK1.2 tys.length (cB, newarray.typeOf atype) (by simp)).2
  have e2 := (hK.2 t0 _ ht).2
  obtain rfl := hu _ _ e1 e2
  exact kk q H1 ⟨h1, h2, h3⟩
theorem g_newq (S : CallFix p m c cc nL s args Ts own) {C : String} {index : Nat} (hcl : Cond.classLink own index C ∈ Ts) (hao : va_AO C s) (hK : va_K D vwCl tys s) (hw : Wd D A H0 ws H locs) (hA : ∀ q, H0.size ≤ q → A q) (t0 : Nat) {cA : ClassId} (ht : tys[t0]? = some (cA, .object C))
    {n : Int32} {N' : Nat} (hn : ¬ n < 0) (hN : n.toNatClampNeg = N') (hbytes : N' * 4 ≤ 536870912) (hcells : cells + 1 ≤ R.cells) (hslots : slots + N' ≤ R.slots) (hdg : decode cc pc = .ok (.anewarray index, 3))
    (kk : ∀ (q : Nat) (H1 : Heap), Wd D A H0 (ws ++ [(q, .inl (cA, N', .inr (.inr (.inr (.inr (fun _ => none))))))]) H1 locs → W p l e R s m args below meth c H1 locs (cells + 1) (slots + N') Q (F0 m (pc + 3) ls (.ref q :: rest))) : W p l e R s m args below meth c H locs cells slots Q (F0 m pc ls (.int n :: rest)) := by
  refine va_newq S.1 S.2.1 S.2.2.2.1 (S.2.2.2.2 _ hcl) hao hK hw.1 hw.2.1 hw.2.2 hA hn hN hbytes hcells hslots hdg (fun q cB H1 hK1 h1 h2 h3 => ?_)
  obtain ⟨-, -, -, -, -, e1⟩ := (hK1.2 tys.length (cB, .object C) (by simp)).2
  obtain ⟨-, -, -, -, -, e2⟩ := (hK.2 t0 _ ht).2
  obtain rfl := Option.some.inj (e1.symm.trans e2)
  exact kk q H1 ⟨h1, h2, h3⟩
theorem g_new (S : CallFix p m c cc nL s args Ts own) {C : String} {T : u_T} {N ci index : Nat} (hin : ∀ w ∈ u_ws C T N, w ∈ Ts) (ty : Nat → FieldType) (hty : ∀ k, k < N → parseFieldDescriptor (T k).2.2.1 = some (ty k)) (hcl : Cond.classLink own index C ∈ Ts) (hinst : Cond.instantiable C N ∈ Ts) (hini : Cond.initialized C ∈ Ts) (hK : va_K D vwCl tys s) (hw : Wd D A H0 ws H locs) (hA : ∀ q, H0.size ≤ q → A q) (hc : vwCl[ci]? = some (C, T, N)) {fs : List Value} (hfs : ∀ j, j < N → defaultValue (ty j) = vp_V fs j) (hcells : cells + 1 ≤ R.cells) (hslots : slots + N ≤ R.slots) (hdg : decode cc pc = .ok (.new index, 3))
    (kk : ∀ (q : Nat) (H1 : Heap), Wd D A H0 (ws ++ [(q, .inr (ci, fs))]) H1 locs → W p l e R s m args below meth c H1 locs (cells + 1) (slots + N) Q (F0 m (pc + 3) ls (.ref q :: rest))) : W p l e R s m args below meth c H locs cells slots Q (F0 m pc ls rest) :=
  va_new S.1 S.2.1 S.2.2.2.2 hin ty hty S.2.2.2.1 (S.2.2.2.2 _ hcl) (S.2.2.2.2 _ hinst) (S.2.2.2.2 _ hini) hK hw.1 hw.2.1 hw.2.2 hA hc hfs hcells hslots hdg (fun q H1 h1 h2 h3 => kk q H1 ⟨h1, h2, h3⟩)
theorem g_putF (S : CallFix p m c cc nL s args Ts own) {C : String} {T : u_T} {N ci index : Nat} (hin : ∀ w ∈ u_ws C T N, w ∈ Ts) (ty0 : Nat → FieldType) (hty : ∀ k, k < N → parseFieldDescriptor (T k).2.2.1 = some (ty0 k)) (hnm : ∀ a, a < N → ∀ b, b < N → a ≠ b → (T a).2.1 ≠ (T b).2.1) (hK : va_K D vwCl tys s) (hw : Wd D A H0 ws H locs) (hname : meth.name = "<init>") (q0 k : Nat) {fs : List Value} {v : Value} (hlink : Cond.fieldLink own index (T k).1 (T k).2.1 (T k).2.2.1 ∈ Ts) (hdg : decode cc pc = .ok (.putfield index, 3)) (he : ws[q0]? = some (a, .inr (ci, fs))) (hc : vwCl[ci]? = some (C, T, N)) (hk : k < N) (hfin : (T k).2.2.2 = true) (hdecl : (T k).1 = own) (hn : narrow (ty0 k) v = v) (hfit : fits (ty0 k) v = true) (hl : k < fs.length) (hs : ws.set q0 (a, .inr (ci, fs.set k v)) = ws')
    (kk : ∀ (H1 : Heap) (locs1 : List Loc), Wd D A H0 ws' H1 locs1 → W p l e R s m args below meth c H1 locs1 cells slots Q (F0 m (pc + 3) ls rest)) : W p l e R s m args below meth c H locs cells slots Q (F0 m pc ls (v :: .ref a :: rest)) := by
  subst hs
  exact va_putF S.1 S.2.1 S.2.2.2.2 hin ty0 hty hnm S.2.2.2.1 hK hw.1 hw.2.1 hw.2.2 q0 he hc k hk (S.2.2.2.2 _ hlink) (fun _ h => h) hfin hname hdecl (hty k hk) hn hfit hl hdg (fun H1 locs1 h1 h2 h3 => kk H1 locs1 ⟨h1, h2, h3⟩)
theorem g_obj (S : CallFix p m c cc nL s args Ts own) (hl : ls.size = nL) {idx : Nat} (h1 : Cond.methodLink own idx objectInit ∈ Ts) (h2 : Cond.instanceMethod objectInit ∈ Ts) (h3 : Cond.code objectInit ⟨#[0xb1]⟩ 1 none ∈ Ts) (hd : decode cc pc = .ok (.invokespecial idx, 3)) (hframes : 1 ≤ R.frames) (hlocals : (rest.map fun v => v.category).sum + 12 ≤ R.locals)
    (kk : W p l e R s m args below meth c H locs cells slots Q (F0 m (pc + 3) ls rest)) : W p l e R s m args below meth c H locs cells slots Q (F0 m pc ls (.ref a :: rest)) :=
  W.objInit S.1 S.2.1 S.2.2.2.1 (S.2.2.2.2 _ h1) (S.2.2.2.2 _ h2) (S.2.2.2.2 _ h3) rfl (by rw [S.2.2.1]; exact hl) rfl hd hframes (by show 2 * 0 + _ + 12 ≤ _; omega) kk
theorem rt_n {σ : Type} {wf : σ → va_W} (u : σ) (perm : List Nat) (S : CallFix p m c cc nL s args Ts own) (hr : meth.sig.returnType = none) (hlk : meth.locks = false) (hw : Wd D A s.heap ws H locs) (hp : perm.map (fun i => ws[i]?) = (wf u).map some) (hpn : va_nd perm = true) (hdg : decode cc pc = .ok (.return_, 1)) : W p l e R s m args below meth c H locs cells slots (MQ below (QcN D wf A) args s cells slots A) (F0 m pc ls []) :=
  W.vret S.1 S.2.1 hr (fun _ ht _ => ⟨⟨u, rfl, trivial, by rw [ht]; exact hw.1.sub perm (fm_of hp), hw.2.1.sub perm hpn hp⟩, hw.2.2.F ht⟩) hw.2.2.2.2 hdg hlk
end HC
end
section
set_option maxHeartbeats 4000000 in
set_option maxRecDepth 100000 in
theorem n_X3_init (l : Launch) (D : va_G) (cI cZ cJ cO : ClassId) (sz q_t : Nat) : Met l yX3_init wsX3_init ({ frames := 1, cells := 2, slots := 480, locals := 20 }) (PreC D (TY cI cZ cJ cO) [.ref q_t] [(q_t, .inr (3, [.null, .null]))] sz) (QcN D (fun u : Nat → Nat => [(q_t, .inr (3, [.ref (u 0), .ref (u 1)])), ((u 0), .inl (cI, 240, .inl (fun _ => 0))), ((u 1), .inl (cI, 240, .inl (fun _ => 0)))]) (va_A [(q_t, .inr (3, [.null, .null]))] sz)) 2 480 (va_A [(q_t, .inr (3, [.null, .null]))] sz) := by
  refine ctr (cc := cX3_init) (maxL := 1) (ret := none) (by decide) rfl (Nat.le_of_ble_eq_true rfl) ?_
  intro p e s m below meth c S hr hlk hnm hK hN hsz hA hw ls hl
  generalize va_A [(q_t, .inr (3, [.null, .null]))] sz = A at hA hw ⊢
  have S : CallFix p m c cX3_init 1 s ([.ref q_t] : List Value).toArray wsX3_init RX3 := S
  have hx := S.1
  have hb := S.2.1
  have hts := S.2.2.2.2
  have hl : lv_has ls 1 [(0, .ref q_t)] := hl
  have hinX3 : ∀ w ∈ u_ws RX3 TX3 2, w ∈ wsX3_init := by decide +kernel
  have k9 : Cond.fieldLink RX3 9 "BallBoxes$Row" "boxes" "[I" ∈ wsX3_init := by decide +kernel
  have k15 : Cond.fieldLink RX3 15 "BallBoxes$Row" "made" "[I" ∈ wsX3_init := by decide +kernel
  refine lv_aload_n hx hb dX3_init_0 rfl (lv_at hl 0 rfl) ?_
  refine g_obj S hl.1 (by decide +kernel) (by decide +kernel) (by decide +kernel) dX3_init_1 (Nat.le_of_ble_eq_true rfl) (Nat.le_of_ble_eq_true rfl) ?_
  refine lv_aload_n hx hb dX3_init_4 rfl (lv_at hl 0 rfl) ?_
  refine lv_sipush (v := (240 : Int32)) hx hb dX3_init_5 (by decide) ?_
  refine g_newa (cA := cI) (ty := .int) (N' := 240) (a0 := (240, .inl (fun _ => 0))) S rfl (by decide +kernel) hK hw hA 0 rfl (fun _ _ h1 h2 => Option.some.inj (h1.symm.trans h2)) (fun _ => rfl) (by decide) rfl (by decide) (Nat.le_of_ble_eq_true rfl) (Nat.le_of_ble_eq_true rfl) dX3_init_8 (fun a1 H hw => ?_)
  refine W.widen (k := 1) (n := 240) (by decide) (by decide) ?_
  have hw : Wd D A s.heap [(q_t, .inr (3, [.null, .null])), (a1, .inl (cI, 240, .inl (fun _ => 0)))] H _ := hw
  refine g_putF (ci := 3) (C := RX3) (T := TX3) (N := 2) (ws' := [(q_t, .inr (3, [.ref a1, .null])), (a1, .inl (cI, 240, .inl (fun _ => 0)))]) S hinX3 tyX3 tyX3_ok nmX3 hK hw hnm 0 0 k9 dX3_init_10 rfl rfl (by decide) rfl rfl rfl rfl (Nat.le_of_ble_eq_true rfl) rfl (fun H locs hw => ?_)
  refine lv_aload_n hx hb dX3_init_13 rfl (lv_at hl 0 rfl) ?_
  refine lv_sipush (v := (240 : Int32)) hx hb dX3_init_14 (by decide) ?_
  refine g_newa (cA := cI) (ty := .int) (N' := 240) (a0 := (240, .inl (fun _ => 0))) S rfl (by decide +kernel) hK hw hA 0 rfl (fun _ _ h1 h2 => Option.some.inj (h1.symm.trans h2)) (fun _ => rfl) (by decide) rfl (by decide) (Nat.le_of_ble_eq_true rfl) (Nat.le_of_ble_eq_true rfl) dX3_init_17 (fun a2 H hw => ?_)
  refine W.widen (k := 2) (n := 480) (by decide) (by decide) ?_
  have hw : Wd D A s.heap [(q_t, .inr (3, [.ref a1, .null])), (a1, .inl (cI, 240, .inl (fun _ => 0))), (a2, .inl (cI, 240, .inl (fun _ => 0)))] H _ := hw
  refine g_putF (ci := 3) (C := RX3) (T := TX3) (N := 2) (ws' := [(q_t, .inr (3, [.ref a1, .ref a2])), (a1, .inl (cI, 240, .inl (fun _ => 0))), (a2, .inl (cI, 240, .inl (fun _ => 0)))]) S hinX3 tyX3 tyX3_ok nmX3 hK hw hnm 0 1 k15 dX3_init_19 rfl rfl (by decide) rfl rfl rfl rfl (Nat.le_of_ble_eq_true rfl) rfl (fun H locs hw => ?_)
  exact rt_n (fun k => ([a1, a2] : List Nat).getD k 0) [0, 1, 2] S hr hlk hw rfl rfl dX3_init_22

set_option maxHeartbeats 4000000 in
set_option maxRecDepth 100000 in
theorem n_X0_init (l : Launch) (D : va_G) (cI cZ cJ cO : ClassId) (sz q_t : Nat) : Met l yX0_init wsX0_init ({ frames := 1, cells := 1, slots := 240, locals := 20 }) (PreC D (TY cI cZ cJ cO) [.ref q_t] [(q_t, .inr (0, [.null, .int 0]))] sz) (QcN D (fun u : Nat → Nat => [(q_t, .inr (0, [.ref (u 0), .int 0])), ((u 0), .inl (cI, 240, .inl (fun _ => 0)))]) (va_A [(q_t, .inr (0, [.null, .int 0]))] sz)) 1 240 (va_A [(q_t, .inr (0, [.null, .int 0]))] sz) := by
  refine ctr (cc := cX0_init) (maxL := 1) (ret := none) (by decide) rfl (Nat.le_of_ble_eq_true rfl) ?_
  intro p e s m below meth c S hr hlk hnm hK hN hsz hA hw ls hl
  generalize va_A [(q_t, .inr (0, [.null, .int 0]))] sz = A at hA hw ⊢
  have S : CallFix p m c cX0_init 1 s ([.ref q_t] : List Value).toArray wsX0_init RX0 := S
  have hx := S.1
  have hb := S.2.1
  have hts := S.2.2.2.2
  have hl : lv_has ls 1 [(0, .ref q_t)] := hl
  have hinX0 : ∀ w ∈ u_ws RX0 TX0 2, w ∈ wsX0_init := by decide +kernel
  have k9 : Cond.fieldLink RX0 9 "BallBoxes$Pairs" "left" "[I" ∈ wsX0_init := by decide +kernel
  refine lv_aload_n hx hb dX0_init_0 rfl (lv_at hl 0 rfl) ?_
  refine g_obj S hl.1 (by decide +kernel) (by decide +kernel) (by decide +kernel) dX0_init_1 (Nat.le_of_ble_eq_true rfl) (Nat.le_of_ble_eq_true rfl) ?_
  refine lv_aload_n hx hb dX0_init_4 rfl (lv_at hl 0 rfl) ?_
  refine lv_sipush (v := (240 : Int32)) hx hb dX0_init_5 (by decide) ?_
  refine g_newa (cA := cI) (ty := .int) (N' := 240) (a0 := (240, .inl (fun _ => 0))) S rfl (by decide +kernel) hK hw hA 0 rfl (fun _ _ h1 h2 => Option.some.inj (h1.symm.trans h2)) (fun _ => rfl) (by decide) rfl (by decide) (Nat.le_of_ble_eq_true rfl) (Nat.le_of_ble_eq_true rfl) dX0_init_8 (fun a1 H hw => ?_)
  refine W.widen (k := 1) (n := 240) (by decide) (by decide) ?_
  have hw : Wd D A s.heap [(q_t, .inr (0, [.null, .int 0])), (a1, .inl (cI, 240, .inl (fun _ => 0)))] H _ := hw
  refine g_putF (ci := 0) (C := RX0) (T := TX0) (N := 2) (ws' := [(q_t, .inr (0, [.ref a1, .int 0])), (a1, .inl (cI, 240, .inl (fun _ => 0)))]) S hinX0 tyX0 tyX0_ok nmX0 hK hw hnm 0 0 k9 dX0_init_10 rfl rfl (by decide) rfl rfl rfl rfl (Nat.le_of_ble_eq_true rfl) rfl (fun H locs hw => ?_)
  exact rt_n (fun k => ([a1] : List Nat).getD k 0) [0, 1] S hr hlk hw rfl rfl dX0_init_13

set_option maxHeartbeats 4000000 in
set_option maxRecDepth 100000 in
theorem n_X5_init (l : Launch) (D : va_G) (cI cZ cJ cO : ClassId) (sz q_t : Nat) : Met l yX5_init wsX5_init ({ frames := 1, cells := 3, slots := 721, locals := 20 }) (PreC D (TY cI cZ cJ cO) [.ref q_t] [(q_t, .inr (5, [.null, .null, .null, .int 0, .int 0]))] sz) (QcN D (fun u : Nat → Nat => [(q_t, .inr (5, [.ref (u 0), .ref (u 1), .ref (u 2), .int 0, .int 0])), ((u 0), .inl (cI, 240, .inl (fun _ => 0))), ((u 1), .inl (cI, 240, .inl (fun _ => 0))), ((u 2), .inl (cI, 241, .inl (fun _ => 0)))]) (va_A [(q_t, .inr (5, [.null, .null, .null, .int 0, .int 0]))] sz)) 3 721 (va_A [(q_t, .inr (5, [.null, .null, .null, .int 0, .int 0]))] sz) := by
  refine ctr (cc := cX5_init) (maxL := 1) (ret := none) (by decide) rfl (Nat.le_of_ble_eq_true rfl) ?_
  intro p e s m below meth c S hr hlk hnm hK hN hsz hA hw ls hl
  generalize va_A [(q_t, .inr (5, [.null, .null, .null, .int 0, .int 0]))] sz = A at hA hw ⊢
  have S : CallFix p m c cX5_init 1 s ([.ref q_t] : List Value).toArray wsX5_init RX5 := S
  have hx := S.1
  have hb := S.2.1
  have hts := S.2.2.2.2
  have hl : lv_has ls 1 [(0, .ref q_t)] := hl
  have hinX5 : ∀ w ∈ u_ws RX5 TX5 5, w ∈ wsX5_init := by decide +kernel
  have k9 : Cond.fieldLink RX5 9 "BallBoxes$Strings" "lengths" "[I" ∈ wsX5_init := by decide +kernel
  have k15 : Cond.fieldLink RX5 15 "BallBoxes$Strings" "riggings" "[I" ∈ wsX5_init := by decide +kernel
  have k18 : Cond.fieldLink RX5 18 "BallBoxes$Strings" "lesserSums" "[I" ∈ wsX5_init := by decide +kernel
  refine lv_aload_n hx hb dX5_init_0 rfl (lv_at hl 0 rfl) ?_
  refine g_obj S hl.1 (by decide +kernel) (by decide +kernel) (by decide +kernel) dX5_init_1 (Nat.le_of_ble_eq_true rfl) (Nat.le_of_ble_eq_true rfl) ?_
  refine lv_aload_n hx hb dX5_init_4 rfl (lv_at hl 0 rfl) ?_
  refine lv_sipush (v := (240 : Int32)) hx hb dX5_init_5 (by decide) ?_
  refine g_newa (cA := cI) (ty := .int) (N' := 240) (a0 := (240, .inl (fun _ => 0))) S rfl (by decide +kernel) hK hw hA 0 rfl (fun _ _ h1 h2 => Option.some.inj (h1.symm.trans h2)) (fun _ => rfl) (by decide) rfl (by decide) (Nat.le_of_ble_eq_true rfl) (Nat.le_of_ble_eq_true rfl) dX5_init_8 (fun a1 H hw => ?_)
  refine W.widen (k := 1) (n := 240) (by decide) (by decide) ?_
  have hw : Wd D A s.heap [(q_t, .inr (5, [.null, .null, .null, .int 0, .int 0])), (a1, .inl (cI, 240, .inl (fun _ => 0)))] H _ := hw
  refine g_putF (ci := 5) (C := RX5) (T := TX5) (N := 5) (ws' := [(q_t, .inr (5, [.ref a1, .null, .null, .int 0, .int 0])), (a1, .inl (cI, 240, .inl (fun _ => 0)))]) S hinX5 tyX5 tyX5_ok nmX5 hK hw hnm 0 0 k9 dX5_init_10 rfl rfl (by decide) rfl rfl rfl rfl (Nat.le_of_ble_eq_true rfl) rfl (fun H locs hw => ?_)
  refine lv_aload_n hx hb dX5_init_13 rfl (lv_at hl 0 rfl) ?_
  refine lv_sipush (v := (240 : Int32)) hx hb dX5_init_14 (by decide) ?_
  refine g_newa (cA := cI) (ty := .int) (N' := 240) (a0 := (240, .inl (fun _ => 0))) S rfl (by decide +kernel) hK hw hA 0 rfl (fun _ _ h1 h2 => Option.some.inj (h1.symm.trans h2)) (fun _ => rfl) (by decide) rfl (by decide) (Nat.le_of_ble_eq_true rfl) (Nat.le_of_ble_eq_true rfl) dX5_init_17 (fun a2 H hw => ?_)
  refine W.widen (k := 2) (n := 480) (by decide) (by decide) ?_
  have hw : Wd D A s.heap [(q_t, .inr (5, [.ref a1, .null, .null, .int 0, .int 0])), (a1, .inl (cI, 240, .inl (fun _ => 0))), (a2, .inl (cI, 240, .inl (fun _ => 0)))] H _ := hw
  refine g_putF (ci := 5) (C := RX5) (T := TX5) (N := 5) (ws' := [(q_t, .inr (5, [.ref a1, .ref a2, .null, .int 0, .int 0])), (a1, .inl (cI, 240, .inl (fun _ => 0))), (a2, .inl (cI, 240, .inl (fun _ => 0)))]) S hinX5 tyX5 tyX5_ok nmX5 hK hw hnm 0 1 k15 dX5_init_19 rfl rfl (by decide) rfl rfl rfl rfl (Nat.le_of_ble_eq_true rfl) rfl (fun H locs hw => ?_)
  refine lv_aload_n hx hb dX5_init_22 rfl (lv_at hl 0 rfl) ?_
  refine lv_sipush (v := (241 : Int32)) hx hb dX5_init_23 (by decide) ?_
  refine g_newa (cA := cI) (ty := .int) (N' := 241) (a0 := (241, .inl (fun _ => 0))) S rfl (by decide +kernel) hK hw hA 0 rfl (fun _ _ h1 h2 => Option.some.inj (h1.symm.trans h2)) (fun _ => rfl) (by decide) rfl (by decide) (Nat.le_of_ble_eq_true rfl) (Nat.le_of_ble_eq_true rfl) dX5_init_26 (fun a3 H hw => ?_)
  refine W.widen (k := 3) (n := 721) (by decide) (by decide) ?_
  have hw : Wd D A s.heap [(q_t, .inr (5, [.ref a1, .ref a2, .null, .int 0, .int 0])), (a1, .inl (cI, 240, .inl (fun _ => 0))), (a2, .inl (cI, 240, .inl (fun _ => 0))), (a3, .inl (cI, 241, .inl (fun _ => 0)))] H _ := hw
  refine g_putF (ci := 5) (C := RX5) (T := TX5) (N := 5) (ws' := [(q_t, .inr (5, [.ref a1, .ref a2, .ref a3, .int 0, .int 0])), (a1, .inl (cI, 240, .inl (fun _ => 0))), (a2, .inl (cI, 240, .inl (fun _ => 0))), (a3, .inl (cI, 241, .inl (fun _ => 0)))]) S hinX5 tyX5 tyX5_ok nmX5 hK hw hnm 0 2 k18 dX5_init_28 rfl rfl (by decide) rfl rfl rfl rfl (Nat.le_of_ble_eq_true rfl) rfl (fun H locs hw => ?_)
  exact rt_n (fun k => ([a1, a2, a3] : List Nat).getD k 0) [0, 1, 2, 3] S hr hlk hw rfl rfl dX5_init_31

set_option maxHeartbeats 4000000 in
set_option maxRecDepth 100000 in
theorem n_X1_init (l : Launch) (D : va_G) (cI cZ cJ cO : ClassId) (sz q_t : Nat) : Met l yX1_init wsX1_init ({ frames := 1, cells := 0, slots := 0, locals := 20 }) (PreC D (TY cI cZ cJ cO) [.ref q_t] [(q_t, .inr (1, [.int 0, .long 0, .long 0, .int 0]))] sz) (QcN D (fun u : Nat → Nat => [(q_t, .inr (1, [.int (1 : Int32), .long 0, .long 0, .int 0]))]) (va_A [(q_t, .inr (1, [.int 0, .long 0, .long 0, .int 0]))] sz)) 0 0 (va_A [(q_t, .inr (1, [.int 0, .long 0, .long 0, .int 0]))] sz) := by
  refine ctr (cc := cX1_init) (maxL := 1) (ret := none) (by decide) rfl (Nat.le_of_ble_eq_true rfl) ?_
  intro p e s m below meth c S hr hlk hnm hK hN hsz hA hw ls hl
  generalize va_A [(q_t, .inr (1, [.int 0, .long 0, .long 0, .int 0]))] sz = A at hA hw ⊢
  have S : CallFix p m c cX1_init 1 s ([.ref q_t] : List Value).toArray wsX1_init RX1 := S
  have hx := S.1
  have hb := S.2.1
  have hts := S.2.2.2.2
  have hl : lv_has ls 1 [(0, .ref q_t)] := hl
  have hinX1 : ∀ w ∈ u_ws RX1 TX1 4, w ∈ wsX1_init := by decide +kernel
  have k7 : Cond.fieldLink RX1 7 "BallBoxes$Ring" "size" "I" ∈ wsX1_init := by decide +kernel
  refine lv_aload_n hx hb dX1_init_0 rfl (lv_at hl 0 rfl) ?_
  refine g_obj S hl.1 (by decide +kernel) (by decide +kernel) (by decide +kernel) dX1_init_1 (Nat.le_of_ble_eq_true rfl) (Nat.le_of_ble_eq_true rfl) ?_
  refine lv_aload_n hx hb dX1_init_4 rfl (lv_at hl 0 rfl) ?_
  refine lv_iconst (v := (1 : Int32)) hx hb dX1_init_5 (by decide) ?_
  refine g_put (ci := 1) (C := RX1) (T := TX1) (N := 4) (ws' := [(q_t, .inr (1, [.int (1 : Int32), .long 0, .long 0, .int 0]))]) S hinX1 tyX1 tyX1_ok nmX1 hK hw 0 0 k7 dX1_init_6 rfl rfl (by decide) rfl rfl rfl (Nat.le_of_ble_eq_true rfl) rfl (fun H locs hw => ?_)
  exact rt_n (fun k => ([] : List Nat).getD k 0) [0] S hr hlk hw rfl rfl dX1_init_9

set_option maxHeartbeats 4000000 in
set_option maxRecDepth 100000 in
theorem n_X2_init (l : Launch) (D : va_G) (cI cZ cJ cO : ClassId) (sz q_t : Nat) : Met l yX2_init wsX2_init ({ frames := 2, cells := 2, slots := 68, locals := 40 }) (PreC D (TY cI cZ cJ cO) [.ref q_t] [(q_t, .inr (2, [.null, .null]))] sz) (QcN D (fun u : Nat → Nat => [(q_t, .inr (2, [.ref (u 0), .ref (u 1)])), ((u 0), .inr (1, [.int (1 : Int32), .long 0, .long 0, .int 0])), ((u 1), .inl (cJ, 64, .inr (.inl (fun _ => 0))))]) (va_A [(q_t, .inr (2, [.null, .null]))] sz)) 2 68 (va_A [(q_t, .inr (2, [.null, .null]))] sz) := by
  refine ctr (cc := cX2_init) (maxL := 1) (ret := none) (by decide) rfl (Nat.le_of_ble_eq_true rfl) ?_
  intro p e s m below meth c S hr hlk hnm hK hN hsz hA hw ls hl
  generalize va_A [(q_t, .inr (2, [.null, .null]))] sz = A at hA hw ⊢
  have S : CallFix p m c cX2_init 1 s ([.ref q_t] : List Value).toArray wsX2_init RX2 := S
  have hx := S.1
  have hb := S.2.1
  have hts := S.2.2.2.2
  have hl : lv_has ls 1 [(0, .ref q_t)] := hl
  have hinX1 : ∀ w ∈ u_ws RX1 TX1 4, w ∈ wsX2_init := by decide +kernel
  have hinX2 : ∀ w ∈ u_ws RX2 TX2 2, w ∈ wsX2_init := by decide +kernel
  have k12 : Cond.fieldLink RX2 12 "BallBoxes$RingTrial" "ring" "LBallBoxes$Ring;" ∈ wsX2_init := by decide +kernel
  have k18 : Cond.fieldLink RX2 18 "BallBoxes$RingTrial" "seen" "[J" ∈ wsX2_init := by decide +kernel
  refine lv_aload_n hx hb dX2_init_0 rfl (lv_at hl 0 rfl) ?_
  refine g_obj S hl.1 (by decide +kernel) (by decide +kernel) (by decide +kernel) dX2_init_1 (Nat.le_of_ble_eq_true rfl) (Nat.le_of_ble_eq_true rfl) ?_
  refine lv_aload_n hx hb dX2_init_4 rfl (lv_at hl 0 rfl) ?_
  refine g_new (ci := 1) (fs := [.int 0, .long 0, .long 0, .int 0]) (C := RX1) (T := TX1) (N := 4) S hinX1 tyX1 tyX1_ok (by decide +kernel) (by decide +kernel) (by decide +kernel) hK hw hA rfl (fun j hj => by rcases (show j = 0 ∨ j = 1 ∨ j = 2 ∨ j = 3 by omega) with rfl | rfl | rfl | rfl <;> rfl) (Nat.le_of_ble_eq_true rfl) (Nat.le_of_ble_eq_true rfl) dX2_init_5 (fun a1 H hw => ?_)
  refine W.widen (k := 1) (n := 4) (by decide) (by decide) ?_
  have hw : Wd D A s.heap [(q_t, .inr (2, [.null, .null])), (a1, .inr (1, [.int 0, .long 0, .long 0, .int 0]))] H _ := hw
  refine lv_dup hx hb dX2_init_8 rfl ?_
  refine cl_n (wr := [(q_t, .inr (2, [.null, .null]))]) (ws2 := fun u2 => [(q_t, .inr (2, [.null, .null])), (a1, .inr (1, [.int (1 : Int32), .long 0, .long 0, .int 0]))]) hA hw [1] [0] [0, 1] rfl rfl rfl (by decide) (fun _ => rfl) rfl (va_runIN (As := []) (rest := [.ref a1, .ref q_t]) S (n_X1_init l D cI cZ cJ cO _ a1) ⟨va_cnB 0 hts gX2_init_X1_init_n11 rfl rfl rfl (hN.1 _ nw_X2_11) (hts (.initialized RX1) (by decide +kernel)) (by decide +kernel) ⟨Nat.le_of_ble_eq_true rfl, Nat.le_of_ble_eq_true rfl⟩, rfl, hts (.instanceMethod yX1_init) (by decide +kernel)⟩ (pre_S (As := [.ref a1]) hK hN hw [1] rfl rfl) rfl rfl hl.1 rfl (lv_room (Nat.le_of_ble_eq_true rfl)) dX2_init_9 ⟨Nat.le_of_ble_eq_true rfl, Nat.le_of_ble_eq_true rfl⟩) (fun u2 H locs hw => ?_)
  refine W.widen (k := 1) (n := 4) (by decide) (by decide) ?_
  have hw : Wd D A s.heap [(q_t, .inr (2, [.null, .null])), (a1, .inr (1, [.int (1 : Int32), .long 0, .long 0, .int 0]))] H _ := hw
  refine g_putF (ci := 2) (C := RX2) (T := TX2) (N := 2) (ws' := [(q_t, .inr (2, [.ref a1, .null])), (a1, .inr (1, [.int (1 : Int32), .long 0, .long 0, .int 0]))]) S hinX2 tyX2 tyX2_ok nmX2 hK hw hnm 0 0 k12 dX2_init_12 rfl rfl (by decide) rfl rfl rfl rfl (Nat.le_of_ble_eq_true rfl) rfl (fun H locs hw => ?_)
  refine lv_aload_n hx hb dX2_init_15 rfl (lv_at hl 0 rfl) ?_
  refine lv_bipush (v := (64 : Int32)) hx hb dX2_init_16 (by decide) ?_
  refine g_newa (cA := cJ) (ty := .long) (N' := 64) (a0 := (64, .inr (.inl (fun _ => 0)))) S rfl (by decide +kernel) hK hw hA 2 rfl (fun _ _ h1 h2 => Option.some.inj (h1.symm.trans h2)) (fun _ => rfl) (by decide) rfl (by decide) (Nat.le_of_ble_eq_true rfl) (Nat.le_of_ble_eq_true rfl) dX2_init_18 (fun a3 H hw => ?_)
  refine W.widen (k := 2) (n := 68) (by decide) (by decide) ?_
  have hw : Wd D A s.heap [(q_t, .inr (2, [.ref a1, .null])), (a1, .inr (1, [.int (1 : Int32), .long 0, .long 0, .int 0])), (a3, .inl (cJ, 64, .inr (.inl (fun _ => 0))))] H _ := hw
  refine g_putF (ci := 2) (C := RX2) (T := TX2) (N := 2) (ws' := [(q_t, .inr (2, [.ref a1, .ref a3])), (a1, .inr (1, [.int (1 : Int32), .long 0, .long 0, .int 0])), (a3, .inl (cJ, 64, .inr (.inl (fun _ => 0))))]) S hinX2 tyX2 tyX2_ok nmX2 hK hw hnm 0 1 k18 dX2_init_20 rfl rfl (by decide) rfl rfl rfl rfl (Nat.le_of_ble_eq_true rfl) rfl (fun H locs hw => ?_)
  exact rt_n (fun k => ([a1, a3] : List Nat).getD k 0) [0, 1, 2] S hr hlk hw rfl rfl dX2_init_23

set_option maxHeartbeats 4000000 in
set_option maxRecDepth 100000 in
theorem n_X4_init (l : Launch) (D : va_G) (cI cZ cJ cO : ClassId) (sz q_t : Nat) : Met l yX4_init wsX4_init ({ frames := 1, cells := 1, slots := 100, locals := 20 }) (PreC D (TY cI cZ cJ cO) [.ref q_t] [(q_t, .inr (4, [.null, .int 0, .int 0, .int 0]))] sz) (QcN D (fun u : Nat → Nat => [(q_t, .inr (4, [.ref (u 0), .int (1 : Int32), .int 0, .int 0])), ((u 0), .inl (cI, 100, .inl (fun _ => 0)))]) (va_A [(q_t, .inr (4, [.null, .int 0, .int 0, .int 0]))] sz)) 1 100 (va_A [(q_t, .inr (4, [.null, .int 0, .int 0, .int 0]))] sz) := by
  refine ctr (cc := cX4_init) (maxL := 1) (ret := none) (by decide) rfl (Nat.le_of_ble_eq_true rfl) ?_
  intro p e s m below meth c S hr hlk hnm hK hN hsz hA hw ls hl
  generalize va_A [(q_t, .inr (4, [.null, .int 0, .int 0, .int 0]))] sz = A at hA hw ⊢
  have S : CallFix p m c cX4_init 1 s ([.ref q_t] : List Value).toArray wsX4_init RX4 := S
  have hx := S.1
  have hb := S.2.1
  have hts := S.2.2.2.2
  have hl : lv_has ls 1 [(0, .ref q_t)] := hl
  have hinX4 : ∀ w ∈ u_ws RX4 TX4 4, w ∈ wsX4_init := by decide +kernel
  have k9 : Cond.fieldLink RX4 9 "BallBoxes$Sheet" "items" "[I" ∈ wsX4_init := by decide +kernel
  have k15 : Cond.fieldLink RX4 15 "BallBoxes$Sheet" "lost" "Z" ∈ wsX4_init := by decide +kernel
  refine lv_aload_n hx hb dX4_init_0 rfl (lv_at hl 0 rfl) ?_
  refine g_obj S hl.1 (by decide +kernel) (by decide +kernel) (by decide +kernel) dX4_init_1 (Nat.le_of_ble_eq_true rfl) (Nat.le_of_ble_eq_true rfl) ?_
  refine lv_aload_n hx hb dX4_init_4 rfl (lv_at hl 0 rfl) ?_
  refine lv_bipush (v := (100 : Int32)) hx hb dX4_init_5 (by decide) ?_
  refine g_newa (cA := cI) (ty := .int) (N' := 100) (a0 := (100, .inl (fun _ => 0))) S rfl (by decide +kernel) hK hw hA 0 rfl (fun _ _ h1 h2 => Option.some.inj (h1.symm.trans h2)) (fun _ => rfl) (by decide) rfl (by decide) (Nat.le_of_ble_eq_true rfl) (Nat.le_of_ble_eq_true rfl) dX4_init_7 (fun a1 H hw => ?_)
  refine W.widen (k := 1) (n := 100) (by decide) (by decide) ?_
  have hw : Wd D A s.heap [(q_t, .inr (4, [.null, .int 0, .int 0, .int 0])), (a1, .inl (cI, 100, .inl (fun _ => 0)))] H _ := hw
  refine g_putF (ci := 4) (C := RX4) (T := TX4) (N := 4) (ws' := [(q_t, .inr (4, [.ref a1, .int 0, .int 0, .int 0])), (a1, .inl (cI, 100, .inl (fun _ => 0)))]) S hinX4 tyX4 tyX4_ok nmX4 hK hw hnm 0 0 k9 dX4_init_9 rfl rfl (by decide) rfl rfl rfl rfl (Nat.le_of_ble_eq_true rfl) rfl (fun H locs hw => ?_)
  refine lv_aload_n hx hb dX4_init_12 rfl (lv_at hl 0 rfl) ?_
  refine lv_iconst (v := (1 : Int32)) hx hb dX4_init_13 (by decide) ?_
  refine g_put (ci := 4) (C := RX4) (T := TX4) (N := 4) (ws' := [(q_t, .inr (4, [.ref a1, .int (1 : Int32), .int 0, .int 0])), (a1, .inl (cI, 100, .inl (fun _ => 0)))]) S hinX4 tyX4 tyX4_ok nmX4 hK hw 0 1 k15 dX4_init_14 rfl rfl (by decide) rfl rfl rfl (Nat.le_of_ble_eq_true rfl) rfl (fun H locs hw => ?_)
  exact rt_n (fun k => ([a1] : List Nat).getD k 0) [0, 1] S hr hlk hw rfl rfl dX4_init_17

set_option maxHeartbeats 4000000 in
set_option maxRecDepth 100000 in
theorem n_X6_init (l : Launch) (D : va_G) (cI cZ cJ cO : ClassId) (sz q_t : Nat) : Met l yX6_init wsX6_init ({ frames := 3, cells := 26, slots := 2670, locals := 60 }) (PreC D (TY cI cZ cJ cO) [.ref q_t] [(q_t, .inr (6, [.null, .null, .null, .null, .null, .null, .null, .int 0, .int 0]))] sz) (QcN D (fun u : Nat → Nat => [(q_t, .inr (6, [.ref (u 0), .ref (u 3), .ref (u 5), .ref (u 9), .ref (u 13), .ref (u 14), .ref (u 17), .int 0, .int 0])), ((u 0), .inr (3, [.ref (u 1), .ref (u 2)])), ((u 1), .inl (cI, 240, .inl (fun _ => 0))), ((u 2), .inl (cI, 240, .inl (fun _ => 0))), ((u 3), .inr (0, [.ref (u 4), .int 0])), ((u 4), .inl (cI, 240, .inl (fun _ => 0))), ((u 5), .inr (5, [.ref (u 6), .ref (u 7), .ref (u 8), .int 0, .int 0])), ((u 6), .inl (cI, 240, .inl (fun _ => 0))), ((u 7), .inl (cI, 240, .inl (fun _ => 0))), ((u 8), .inl (cI, 241, .inl (fun _ => 0))), ((u 9), .inr (5, [.ref (u 10), .ref (u 11), .ref (u 12), .int 0, .int 0])), ((u 10), .inl (cI, 240, .inl (fun _ => 0))), ((u 11), .inl (cI, 240, .inl (fun _ => 0))), ((u 12), .inl (cI, 241, .inl (fun _ => 0))), ((u 13), .inr (1, [.int (1 : Int32), .long 0, .long 0, .int 0])), ((u 14), .inr (2, [.ref (u 15), .ref (u 16)])), ((u 15), .inr (1, [.int (1 : Int32), .long 0, .long 0, .int 0])), ((u 16), .inl (cJ, 64, .inr (.inl (fun _ => 0)))), ((u 17), .inl (cO, 4, .inr (.inr (.inr (.inr (va_up (va_up (va_up (va_up (fun _ => none) (0 : Int32).toNatClampNeg (some (u 18))) (1 : Int32).toNatClampNeg (some (u 20))) (2 : Int32).toNatClampNeg (some (u 22))) (3 : Int32).toNatClampNeg (some (u 24)))))))), ((u 18), .inr (4, [.ref (u 19), .int (1 : Int32), .int 0, .int 0])), ((u 19), .inl (cI, 100, .inl (fun _ => 0))), ((u 20), .inr (4, [.ref (u 21), .int (1 : Int32), .int 0, .int 0])), ((u 21), .inl (cI, 100, .inl (fun _ => 0))), ((u 22), .inr (4, [.ref (u 23), .int (1 : Int32), .int 0, .int 0])), ((u 23), .inl (cI, 100, .inl (fun _ => 0))), ((u 24), .inr (4, [.ref (u 25), .int (1 : Int32), .int 0, .int 0])), ((u 25), .inl (cI, 100, .inl (fun _ => 0)))]) (va_A [(q_t, .inr (6, [.null, .null, .null, .null, .null, .null, .null, .int 0, .int 0]))] sz)) 26 2670 (va_A [(q_t, .inr (6, [.null, .null, .null, .null, .null, .null, .null, .int 0, .int 0]))] sz) := by
  refine ctr (cc := cX6_init) (maxL := 2) (ret := none) (by decide) rfl (Nat.le_of_ble_eq_true rfl) ?_
  intro p e s m below meth c S hr hlk hnm hK hN hsz hA hw ls hl
  generalize va_A [(q_t, .inr (6, [.null, .null, .null, .null, .null, .null, .null, .int 0, .int 0]))] sz = A at hA hw ⊢
  have S : CallFix p m c cX6_init 2 s ([.ref q_t] : List Value).toArray wsX6_init RX6 := S
  have hx := S.1
  have hb := S.2.1
  have hts := S.2.2.2.2
  have hl : lv_has ls 2 [(0, .ref q_t)] := hl
  have hinX0 : ∀ w ∈ u_ws RX0 TX0 2, w ∈ wsX6_init := by decide +kernel
  have hinX1 : ∀ w ∈ u_ws RX1 TX1 4, w ∈ wsX6_init := by decide +kernel
  have hinX2 : ∀ w ∈ u_ws RX2 TX2 2, w ∈ wsX6_init := by decide +kernel
  have hinX3 : ∀ w ∈ u_ws RX3 TX3 2, w ∈ wsX6_init := by decide +kernel
  have hinX4 : ∀ w ∈ u_ws RX4 TX4 4, w ∈ wsX6_init := by decide +kernel
  have hinX5 : ∀ w ∈ u_ws RX5 TX5 5, w ∈ wsX6_init := by decide +kernel
  have hinX6 : ∀ w ∈ u_ws RX6 TX6 9, w ∈ wsX6_init := by decide +kernel
  have k10 : Cond.fieldLink RX6 10 "BallBoxes" "theRow" "LBallBoxes$Row;" ∈ wsX6_init := by decide +kernel
  have k19 : Cond.fieldLink RX6 19 "BallBoxes" "pairs" "LBallBoxes$Pairs;" ∈ wsX6_init := by decide +kernel
  have k26 : Cond.fieldLink RX6 26 "BallBoxes" "latestStrings" "LBallBoxes$Strings;" ∈ wsX6_init := by decide +kernel
  have k30 : Cond.fieldLink RX6 30 "BallBoxes" "leapStrings" "LBallBoxes$Strings;" ∈ wsX6_init := by decide +kernel
  have k36 : Cond.fieldLink RX6 36 "BallBoxes" "theRing" "LBallBoxes$Ring;" ∈ wsX6_init := by decide +kernel
  have k43 : Cond.fieldLink RX6 43 "BallBoxes" "trial" "LBallBoxes$RingTrial;" ∈ wsX6_init := by decide +kernel
  have k49 : Cond.fieldLink RX6 49 "BallBoxes" "sheets" "[LBallBoxes$Sheet;" ∈ wsX6_init := by decide +kernel
  refine lv_aload_n hx hb dX6_init_0 rfl (lv_at hl 0 rfl) ?_
  refine g_obj S hl.1 (by decide +kernel) (by decide +kernel) (by decide +kernel) dX6_init_1 (Nat.le_of_ble_eq_true rfl) (Nat.le_of_ble_eq_true rfl) ?_
  refine lv_aload_n hx hb dX6_init_4 rfl (lv_at hl 0 rfl) ?_
  refine g_new (ci := 3) (fs := [.null, .null]) (C := RX3) (T := TX3) (N := 2) S hinX3 tyX3 tyX3_ok (by decide +kernel) (by decide +kernel) (by decide +kernel) hK hw hA rfl (fun j hj => by rcases (show j = 0 ∨ j = 1 by omega) with rfl | rfl <;> rfl) (Nat.le_of_ble_eq_true rfl) (Nat.le_of_ble_eq_true rfl) dX6_init_5 (fun a1 H hw => ?_)
  refine W.widen (k := 1) (n := 2) (by decide) (by decide) ?_
  have hw : Wd D A s.heap [(q_t, .inr (6, [.null, .null, .null, .null, .null, .null, .null, .int 0, .int 0])), (a1, .inr (3, [.null, .null]))] H _ := hw
  refine lv_dup hx hb dX6_init_8 rfl ?_
  refine cl_n (wr := [(q_t, .inr (6, [.null, .null, .null, .null, .null, .null, .null, .int 0, .int 0]))]) (ws2 := fun u2 => [(q_t, .inr (6, [.null, .null, .null, .null, .null, .null, .null, .int 0, .int 0])), (a1, .inr (3, [.ref (u2 0), .ref (u2 1)])), ((u2 0), .inl (cI, 240, .inl (fun _ => 0))), ((u2 1), .inl (cI, 240, .inl (fun _ => 0)))]) hA hw [1] [0] [0, 1, 2, 3] rfl rfl rfl (by decide) (fun _ => rfl) rfl (va_runIN (As := []) (rest := [.ref a1, .ref q_t]) S (n_X3_init l D cI cZ cJ cO _ a1) ⟨va_cnB 0 hts gX6_init_X3_init_n9 rfl rfl rfl (hN.1 _ nw_X6_9) (hts (.initialized RX3) (by decide +kernel)) (by decide +kernel) ⟨Nat.le_of_ble_eq_true rfl, Nat.le_of_ble_eq_true rfl⟩, rfl, hts (.instanceMethod yX3_init) (by decide +kernel)⟩ (pre_S (As := [.ref a1]) hK hN hw [1] rfl rfl) rfl rfl hl.1 rfl (lv_room (Nat.le_of_ble_eq_true rfl)) dX6_init_9 ⟨Nat.le_of_ble_eq_true rfl, Nat.le_of_ble_eq_true rfl⟩) (fun u2 H locs hw => ?_)
  refine W.widen (k := 3) (n := 482) (by decide) (by decide) ?_
  have hw : Wd D A s.heap [(q_t, .inr (6, [.null, .null, .null, .null, .null, .null, .null, .int 0, .int 0])), (a1, .inr (3, [.ref (u2 0), .ref (u2 1)])), ((u2 0), .inl (cI, 240, .inl (fun _ => 0))), ((u2 1), .inl (cI, 240, .inl (fun _ => 0)))] H _ := hw
  refine g_putF (ci := 6) (C := RX6) (T := TX6) (N := 9) (ws' := [(q_t, .inr (6, [.ref a1, .null, .null, .null, .null, .null, .null, .int 0, .int 0])), (a1, .inr (3, [.ref (u2 0), .ref (u2 1)])), ((u2 0), .inl (cI, 240, .inl (fun _ => 0))), ((u2 1), .inl (cI, 240, .inl (fun _ => 0)))]) S hinX6 tyX6 tyX6_ok nmX6 hK hw hnm 0 0 k10 dX6_init_12 rfl rfl (by decide) rfl rfl rfl rfl (Nat.le_of_ble_eq_true rfl) rfl (fun H locs hw => ?_)
  refine lv_aload_n hx hb dX6_init_15 rfl (lv_at hl 0 rfl) ?_
  refine g_new (ci := 0) (fs := [.null, .int 0]) (C := RX0) (T := TX0) (N := 2) S hinX0 tyX0 tyX0_ok (by decide +kernel) (by decide +kernel) (by decide +kernel) hK hw hA rfl (fun j hj => by rcases (show j = 0 ∨ j = 1 by omega) with rfl | rfl <;> rfl) (Nat.le_of_ble_eq_true rfl) (Nat.le_of_ble_eq_true rfl) dX6_init_16 (fun a3 H hw => ?_)
  refine W.widen (k := 4) (n := 484) (by decide) (by decide) ?_
  have hw : Wd D A s.heap [(q_t, .inr (6, [.ref a1, .null, .null, .null, .null, .null, .null, .int 0, .int 0])), (a1, .inr (3, [.ref (u2 0), .ref (u2 1)])), ((u2 0), .inl (cI, 240, .inl (fun _ => 0))), ((u2 1), .inl (cI, 240, .inl (fun _ => 0))), (a3, .inr (0, [.null, .int 0]))] H _ := hw
  refine lv_dup hx hb dX6_init_19 rfl ?_
  refine cl_n (wr := [(q_t, .inr (6, [.ref a1, .null, .null, .null, .null, .null, .null, .int 0, .int 0])), (a1, .inr (3, [.ref (u2 0), .ref (u2 1)])), ((u2 0), .inl (cI, 240, .inl (fun _ => 0))), ((u2 1), .inl (cI, 240, .inl (fun _ => 0)))]) (ws2 := fun u4 => [(q_t, .inr (6, [.ref a1, .null, .null, .null, .null, .null, .null, .int 0, .int 0])), (a1, .inr (3, [.ref (u2 0), .ref (u2 1)])), ((u2 0), .inl (cI, 240, .inl (fun _ => 0))), ((u2 1), .inl (cI, 240, .inl (fun _ => 0))), (a3, .inr (0, [.ref (u4 0), .int 0])), ((u4 0), .inl (cI, 240, .inl (fun _ => 0)))]) hA hw [4] [0, 1, 2, 3] [0, 1, 2, 3, 4, 5] rfl rfl rfl (by decide) (fun _ => rfl) rfl (va_runIN (As := []) (rest := [.ref a3, .ref q_t]) S (n_X0_init l D cI cZ cJ cO _ a3) ⟨va_cnB 0 hts gX6_init_X0_init_n18 rfl rfl rfl (hN.1 _ nw_X6_18) (hts (.initialized RX0) (by decide +kernel)) (by decide +kernel) ⟨Nat.le_of_ble_eq_true rfl, Nat.le_of_ble_eq_true rfl⟩, rfl, hts (.instanceMethod yX0_init) (by decide +kernel)⟩ (pre_S (As := [.ref a3]) hK hN hw [4] rfl rfl) rfl rfl hl.1 rfl (lv_room (Nat.le_of_ble_eq_true rfl)) dX6_init_20 ⟨Nat.le_of_ble_eq_true rfl, Nat.le_of_ble_eq_true rfl⟩) (fun u4 H locs hw => ?_)
  refine W.widen (k := 5) (n := 724) (by decide) (by decide) ?_
  have hw : Wd D A s.heap [(q_t, .inr (6, [.ref a1, .null, .null, .null, .null, .null, .null, .int 0, .int 0])), (a1, .inr (3, [.ref (u2 0), .ref (u2 1)])), ((u2 0), .inl (cI, 240, .inl (fun _ => 0))), ((u2 1), .inl (cI, 240, .inl (fun _ => 0))), (a3, .inr (0, [.ref (u4 0), .int 0])), ((u4 0), .inl (cI, 240, .inl (fun _ => 0)))] H _ := hw
  refine g_putF (ci := 6) (C := RX6) (T := TX6) (N := 9) (ws' := [(q_t, .inr (6, [.ref a1, .ref a3, .null, .null, .null, .null, .null, .int 0, .int 0])), (a1, .inr (3, [.ref (u2 0), .ref (u2 1)])), ((u2 0), .inl (cI, 240, .inl (fun _ => 0))), ((u2 1), .inl (cI, 240, .inl (fun _ => 0))), (a3, .inr (0, [.ref (u4 0), .int 0])), ((u4 0), .inl (cI, 240, .inl (fun _ => 0)))]) S hinX6 tyX6 tyX6_ok nmX6 hK hw hnm 0 1 k19 dX6_init_23 rfl rfl (by decide) rfl rfl rfl rfl (Nat.le_of_ble_eq_true rfl) rfl (fun H locs hw => ?_)
  refine lv_aload_n hx hb dX6_init_26 rfl (lv_at hl 0 rfl) ?_
  refine g_new (ci := 5) (fs := [.null, .null, .null, .int 0, .int 0]) (C := RX5) (T := TX5) (N := 5) S hinX5 tyX5 tyX5_ok (by decide +kernel) (by decide +kernel) (by decide +kernel) hK hw hA rfl (fun j hj => by rcases (show j = 0 ∨ j = 1 ∨ j = 2 ∨ j = 3 ∨ j = 4 by omega) with rfl | rfl | rfl | rfl | rfl <;> rfl) (Nat.le_of_ble_eq_true rfl) (Nat.le_of_ble_eq_true rfl) dX6_init_27 (fun a5 H hw => ?_)
  refine W.widen (k := 6) (n := 729) (by decide) (by decide) ?_
  have hw : Wd D A s.heap [(q_t, .inr (6, [.ref a1, .ref a3, .null, .null, .null, .null, .null, .int 0, .int 0])), (a1, .inr (3, [.ref (u2 0), .ref (u2 1)])), ((u2 0), .inl (cI, 240, .inl (fun _ => 0))), ((u2 1), .inl (cI, 240, .inl (fun _ => 0))), (a3, .inr (0, [.ref (u4 0), .int 0])), ((u4 0), .inl (cI, 240, .inl (fun _ => 0))), (a5, .inr (5, [.null, .null, .null, .int 0, .int 0]))] H _ := hw
  refine lv_dup hx hb dX6_init_30 rfl ?_
  refine cl_n (wr := [(q_t, .inr (6, [.ref a1, .ref a3, .null, .null, .null, .null, .null, .int 0, .int 0])), (a1, .inr (3, [.ref (u2 0), .ref (u2 1)])), ((u2 0), .inl (cI, 240, .inl (fun _ => 0))), ((u2 1), .inl (cI, 240, .inl (fun _ => 0))), (a3, .inr (0, [.ref (u4 0), .int 0])), ((u4 0), .inl (cI, 240, .inl (fun _ => 0)))]) (ws2 := fun u6 => [(q_t, .inr (6, [.ref a1, .ref a3, .null, .null, .null, .null, .null, .int 0, .int 0])), (a1, .inr (3, [.ref (u2 0), .ref (u2 1)])), ((u2 0), .inl (cI, 240, .inl (fun _ => 0))), ((u2 1), .inl (cI, 240, .inl (fun _ => 0))), (a3, .inr (0, [.ref (u4 0), .int 0])), ((u4 0), .inl (cI, 240, .inl (fun _ => 0))), (a5, .inr (5, [.ref (u6 0), .ref (u6 1), .ref (u6 2), .int 0, .int 0])), ((u6 0), .inl (cI, 240, .inl (fun _ => 0))), ((u6 1), .inl (cI, 240, .inl (fun _ => 0))), ((u6 2), .inl (cI, 241, .inl (fun _ => 0)))]) hA hw [6] [0, 1, 2, 3, 4, 5] [0, 1, 2, 3, 4, 5, 6, 7, 8, 9] rfl rfl rfl (by decide) (fun _ => rfl) rfl (va_runIN (As := []) (rest := [.ref a5, .ref q_t]) S (n_X5_init l D cI cZ cJ cO _ a5) ⟨va_cnB 0 hts gX6_init_X5_init_n25 rfl rfl rfl (hN.1 _ nw_X6_25) (hts (.initialized RX5) (by decide +kernel)) (by decide +kernel) ⟨Nat.le_of_ble_eq_true rfl, Nat.le_of_ble_eq_true rfl⟩, rfl, hts (.instanceMethod yX5_init) (by decide +kernel)⟩ (pre_S (As := [.ref a5]) hK hN hw [6] rfl rfl) rfl rfl hl.1 rfl (lv_room (Nat.le_of_ble_eq_true rfl)) dX6_init_31 ⟨Nat.le_of_ble_eq_true rfl, Nat.le_of_ble_eq_true rfl⟩) (fun u6 H locs hw => ?_)
  refine W.widen (k := 9) (n := 1450) (by decide) (by decide) ?_
  have hw : Wd D A s.heap [(q_t, .inr (6, [.ref a1, .ref a3, .null, .null, .null, .null, .null, .int 0, .int 0])), (a1, .inr (3, [.ref (u2 0), .ref (u2 1)])), ((u2 0), .inl (cI, 240, .inl (fun _ => 0))), ((u2 1), .inl (cI, 240, .inl (fun _ => 0))), (a3, .inr (0, [.ref (u4 0), .int 0])), ((u4 0), .inl (cI, 240, .inl (fun _ => 0))), (a5, .inr (5, [.ref (u6 0), .ref (u6 1), .ref (u6 2), .int 0, .int 0])), ((u6 0), .inl (cI, 240, .inl (fun _ => 0))), ((u6 1), .inl (cI, 240, .inl (fun _ => 0))), ((u6 2), .inl (cI, 241, .inl (fun _ => 0)))] H _ := hw
  refine g_putF (ci := 6) (C := RX6) (T := TX6) (N := 9) (ws' := [(q_t, .inr (6, [.ref a1, .ref a3, .ref a5, .null, .null, .null, .null, .int 0, .int 0])), (a1, .inr (3, [.ref (u2 0), .ref (u2 1)])), ((u2 0), .inl (cI, 240, .inl (fun _ => 0))), ((u2 1), .inl (cI, 240, .inl (fun _ => 0))), (a3, .inr (0, [.ref (u4 0), .int 0])), ((u4 0), .inl (cI, 240, .inl (fun _ => 0))), (a5, .inr (5, [.ref (u6 0), .ref (u6 1), .ref (u6 2), .int 0, .int 0])), ((u6 0), .inl (cI, 240, .inl (fun _ => 0))), ((u6 1), .inl (cI, 240, .inl (fun _ => 0))), ((u6 2), .inl (cI, 241, .inl (fun _ => 0)))]) S hinX6 tyX6 tyX6_ok nmX6 hK hw hnm 0 2 k26 dX6_init_34 rfl rfl (by decide) rfl rfl rfl rfl (Nat.le_of_ble_eq_true rfl) rfl (fun H locs hw => ?_)
  refine lv_aload_n hx hb dX6_init_37 rfl (lv_at hl 0 rfl) ?_
  refine g_new (ci := 5) (fs := [.null, .null, .null, .int 0, .int 0]) (C := RX5) (T := TX5) (N := 5) S hinX5 tyX5 tyX5_ok (by decide +kernel) (by decide +kernel) (by decide +kernel) hK hw hA rfl (fun j hj => by rcases (show j = 0 ∨ j = 1 ∨ j = 2 ∨ j = 3 ∨ j = 4 by omega) with rfl | rfl | rfl | rfl | rfl <;> rfl) (Nat.le_of_ble_eq_true rfl) (Nat.le_of_ble_eq_true rfl) dX6_init_38 (fun a7 H hw => ?_)
  refine W.widen (k := 10) (n := 1455) (by decide) (by decide) ?_
  have hw : Wd D A s.heap [(q_t, .inr (6, [.ref a1, .ref a3, .ref a5, .null, .null, .null, .null, .int 0, .int 0])), (a1, .inr (3, [.ref (u2 0), .ref (u2 1)])), ((u2 0), .inl (cI, 240, .inl (fun _ => 0))), ((u2 1), .inl (cI, 240, .inl (fun _ => 0))), (a3, .inr (0, [.ref (u4 0), .int 0])), ((u4 0), .inl (cI, 240, .inl (fun _ => 0))), (a5, .inr (5, [.ref (u6 0), .ref (u6 1), .ref (u6 2), .int 0, .int 0])), ((u6 0), .inl (cI, 240, .inl (fun _ => 0))), ((u6 1), .inl (cI, 240, .inl (fun _ => 0))), ((u6 2), .inl (cI, 241, .inl (fun _ => 0))), (a7, .inr (5, [.null, .null, .null, .int 0, .int 0]))] H _ := hw
  refine lv_dup hx hb dX6_init_41 rfl ?_
  refine cl_n (wr := [(q_t, .inr (6, [.ref a1, .ref a3, .ref a5, .null, .null, .null, .null, .int 0, .int 0])), (a1, .inr (3, [.ref (u2 0), .ref (u2 1)])), ((u2 0), .inl (cI, 240, .inl (fun _ => 0))), ((u2 1), .inl (cI, 240, .inl (fun _ => 0))), (a3, .inr (0, [.ref (u4 0), .int 0])), ((u4 0), .inl (cI, 240, .inl (fun _ => 0))), (a5, .inr (5, [.ref (u6 0), .ref (u6 1), .ref (u6 2), .int 0, .int 0])), ((u6 0), .inl (cI, 240, .inl (fun _ => 0))), ((u6 1), .inl (cI, 240, .inl (fun _ => 0))), ((u6 2), .inl (cI, 241, .inl (fun _ => 0)))]) (ws2 := fun u8 => [(q_t, .inr (6, [.ref a1, .ref a3, .ref a5, .null, .null, .null, .null, .int 0, .int 0])), (a1, .inr (3, [.ref (u2 0), .ref (u2 1)])), ((u2 0), .inl (cI, 240, .inl (fun _ => 0))), ((u2 1), .inl (cI, 240, .inl (fun _ => 0))), (a3, .inr (0, [.ref (u4 0), .int 0])), ((u4 0), .inl (cI, 240, .inl (fun _ => 0))), (a5, .inr (5, [.ref (u6 0), .ref (u6 1), .ref (u6 2), .int 0, .int 0])), ((u6 0), .inl (cI, 240, .inl (fun _ => 0))), ((u6 1), .inl (cI, 240, .inl (fun _ => 0))), ((u6 2), .inl (cI, 241, .inl (fun _ => 0))), (a7, .inr (5, [.ref (u8 0), .ref (u8 1), .ref (u8 2), .int 0, .int 0])), ((u8 0), .inl (cI, 240, .inl (fun _ => 0))), ((u8 1), .inl (cI, 240, .inl (fun _ => 0))), ((u8 2), .inl (cI, 241, .inl (fun _ => 0)))]) hA hw [10] [0, 1, 2, 3, 4, 5, 6, 7, 8, 9] [0, 1, 2, 3, 4, 5, 6, 7, 8, 9, 10, 11, 12, 13] rfl rfl rfl (by decide) (fun _ => rfl) rfl (va_runIN (As := []) (rest := [.ref a7, .ref q_t]) S (n_X5_init l D cI cZ cJ cO _ a7) ⟨va_cnB 0 hts gX6_init_X5_init_n25 rfl rfl rfl (hN.1 _ nw_X6_25) (hts (.initialized RX5) (by decide +kernel)) (by decide +kernel) ⟨Nat.le_of_ble_eq_true rfl, Nat.le_of_ble_eq_true rfl⟩, rfl, hts (.instanceMethod yX5_init) (by decide +kernel)⟩ (pre_S (As := [.ref a7]) hK hN hw [10] rfl rfl) rfl rfl hl.1 rfl (lv_room (Nat.le_of_ble_eq_true rfl)) dX6_init_42 ⟨Nat.le_of_ble_eq_true rfl, Nat.le_of_ble_eq_true rfl⟩) (fun u8 H locs hw => ?_)
  refine W.widen (k := 13) (n := 2176) (by decide) (by decide) ?_
  have hw : Wd D A s.heap [(q_t, .inr (6, [.ref a1, .ref a3, .ref a5, .null, .null, .null, .null, .int 0, .int 0])), (a1, .inr (3, [.ref (u2 0), .ref (u2 1)])), ((u2 0), .inl (cI, 240, .inl (fun _ => 0))), ((u2 1), .inl (cI, 240, .inl (fun _ => 0))), (a3, .inr (0, [.ref (u4 0), .int 0])), ((u4 0), .inl (cI, 240, .inl (fun _ => 0))), (a5, .inr (5, [.ref (u6 0), .ref (u6 1), .ref (u6 2), .int 0, .int 0])), ((u6 0), .inl (cI, 240, .inl (fun _ => 0))), ((u6 1), .inl (cI, 240, .inl (fun _ => 0))), ((u6 2), .inl (cI, 241, .inl (fun _ => 0))), (a7, .inr (5, [.ref (u8 0), .ref (u8 1), .ref (u8 2), .int 0, .int 0])), ((u8 0), .inl (cI, 240, .inl (fun _ => 0))), ((u8 1), .inl (cI, 240, .inl (fun _ => 0))), ((u8 2), .inl (cI, 241, .inl (fun _ => 0)))] H _ := hw
  refine g_putF (ci := 6) (C := RX6) (T := TX6) (N := 9) (ws' := [(q_t, .inr (6, [.ref a1, .ref a3, .ref a5, .ref a7, .null, .null, .null, .int 0, .int 0])), (a1, .inr (3, [.ref (u2 0), .ref (u2 1)])), ((u2 0), .inl (cI, 240, .inl (fun _ => 0))), ((u2 1), .inl (cI, 240, .inl (fun _ => 0))), (a3, .inr (0, [.ref (u4 0), .int 0])), ((u4 0), .inl (cI, 240, .inl (fun _ => 0))), (a5, .inr (5, [.ref (u6 0), .ref (u6 1), .ref (u6 2), .int 0, .int 0])), ((u6 0), .inl (cI, 240, .inl (fun _ => 0))), ((u6 1), .inl (cI, 240, .inl (fun _ => 0))), ((u6 2), .inl (cI, 241, .inl (fun _ => 0))), (a7, .inr (5, [.ref (u8 0), .ref (u8 1), .ref (u8 2), .int 0, .int 0])), ((u8 0), .inl (cI, 240, .inl (fun _ => 0))), ((u8 1), .inl (cI, 240, .inl (fun _ => 0))), ((u8 2), .inl (cI, 241, .inl (fun _ => 0)))]) S hinX6 tyX6 tyX6_ok nmX6 hK hw hnm 0 3 k30 dX6_init_45 rfl rfl (by decide) rfl rfl rfl rfl (Nat.le_of_ble_eq_true rfl) rfl (fun H locs hw => ?_)
  refine lv_aload_n hx hb dX6_init_48 rfl (lv_at hl 0 rfl) ?_
  refine g_new (ci := 1) (fs := [.int 0, .long 0, .long 0, .int 0]) (C := RX1) (T := TX1) (N := 4) S hinX1 tyX1 tyX1_ok (by decide +kernel) (by decide +kernel) (by decide +kernel) hK hw hA rfl (fun j hj => by rcases (show j = 0 ∨ j = 1 ∨ j = 2 ∨ j = 3 by omega) with rfl | rfl | rfl | rfl <;> rfl) (Nat.le_of_ble_eq_true rfl) (Nat.le_of_ble_eq_true rfl) dX6_init_49 (fun a9 H hw => ?_)
  refine W.widen (k := 14) (n := 2180) (by decide) (by decide) ?_
  have hw : Wd D A s.heap [(q_t, .inr (6, [.ref a1, .ref a3, .ref a5, .ref a7, .null, .null, .null, .int 0, .int 0])), (a1, .inr (3, [.ref (u2 0), .ref (u2 1)])), ((u2 0), .inl (cI, 240, .inl (fun _ => 0))), ((u2 1), .inl (cI, 240, .inl (fun _ => 0))), (a3, .inr (0, [.ref (u4 0), .int 0])), ((u4 0), .inl (cI, 240, .inl (fun _ => 0))), (a5, .inr (5, [.ref (u6 0), .ref (u6 1), .ref (u6 2), .int 0, .int 0])), ((u6 0), .inl (cI, 240, .inl (fun _ => 0))), ((u6 1), .inl (cI, 240, .inl (fun _ => 0))), ((u6 2), .inl (cI, 241, .inl (fun _ => 0))), (a7, .inr (5, [.ref (u8 0), .ref (u8 1), .ref (u8 2), .int 0, .int 0])), ((u8 0), .inl (cI, 240, .inl (fun _ => 0))), ((u8 1), .inl (cI, 240, .inl (fun _ => 0))), ((u8 2), .inl (cI, 241, .inl (fun _ => 0))), (a9, .inr (1, [.int 0, .long 0, .long 0, .int 0]))] H _ := hw
  refine lv_dup hx hb dX6_init_52 rfl ?_
  refine cl_n (wr := [(q_t, .inr (6, [.ref a1, .ref a3, .ref a5, .ref a7, .null, .null, .null, .int 0, .int 0])), (a1, .inr (3, [.ref (u2 0), .ref (u2 1)])), ((u2 0), .inl (cI, 240, .inl (fun _ => 0))), ((u2 1), .inl (cI, 240, .inl (fun _ => 0))), (a3, .inr (0, [.ref (u4 0), .int 0])), ((u4 0), .inl (cI, 240, .inl (fun _ => 0))), (a5, .inr (5, [.ref (u6 0), .ref (u6 1), .ref (u6 2), .int 0, .int 0])), ((u6 0), .inl (cI, 240, .inl (fun _ => 0))), ((u6 1), .inl (cI, 240, .inl (fun _ => 0))), ((u6 2), .inl (cI, 241, .inl (fun _ => 0))), (a7, .inr (5, [.ref (u8 0), .ref (u8 1), .ref (u8 2), .int 0, .int 0])), ((u8 0), .inl (cI, 240, .inl (fun _ => 0))), ((u8 1), .inl (cI, 240, .inl (fun _ => 0))), ((u8 2), .inl (cI, 241, .inl (fun _ => 0)))]) (ws2 := fun u10 => [(q_t, .inr (6, [.ref a1, .ref a3, .ref a5, .ref a7, .null, .null, .null, .int 0, .int 0])), (a1, .inr (3, [.ref (u2 0), .ref (u2 1)])), ((u2 0), .inl (cI, 240, .inl (fun _ => 0))), ((u2 1), .inl (cI, 240, .inl (fun _ => 0))), (a3, .inr (0, [.ref (u4 0), .int 0])), ((u4 0), .inl (cI, 240, .inl (fun _ => 0))), (a5, .inr (5, [.ref (u6 0), .ref (u6 1), .ref (u6 2), .int 0, .int 0])), ((u6 0), .inl (cI, 240, .inl (fun _ => 0))), ((u6 1), .inl (cI, 240, .inl (fun _ => 0))), ((u6 2), .inl (cI, 241, .inl (fun _ => 0))), (a7, .inr (5, [.ref (u8 0), .ref (u8 1), .ref (u8 2), .int 0, .int 0])), ((u8 0), .inl (cI, 240, .inl (fun _ => 0))), ((u8 1), .inl (cI, 240, .inl (fun _ => 0))), ((u8 2), .inl (cI, 241, .inl (fun _ => 0))), (a9, .inr (1, [.int (1 : Int32), .long 0, .long 0, .int 0]))]) hA hw [14] [0, 1, 2, 3, 4, 5, 6, 7, 8, 9, 10, 11, 12, 13] [0, 1, 2, 3, 4, 5, 6, 7, 8, 9, 10, 11, 12, 13, 14] rfl rfl rfl (by decide) (fun _ => rfl) rfl (va_runIN (As := []) (rest := [.ref a9, .ref q_t]) S (n_X1_init l D cI cZ cJ cO _ a9) ⟨va_cnB 0 hts gX6_init_X1_init_n35 rfl rfl rfl (hN.1 _ nw_X6_35) (hts (.initialized RX1) (by decide +kernel)) (by decide +kernel) ⟨Nat.le_of_ble_eq_true rfl, Nat.le_of_ble_eq_true rfl⟩, rfl, hts (.instanceMethod yX1_init) (by decide +kernel)⟩ (pre_S (As := [.ref a9]) hK hN hw [14] rfl rfl) rfl rfl hl.1 rfl (lv_room (Nat.le_of_ble_eq_true rfl)) dX6_init_53 ⟨Nat.le_of_ble_eq_true rfl, Nat.le_of_ble_eq_true rfl⟩) (fun u10 H locs hw => ?_)
  refine W.widen (k := 14) (n := 2180) (by decide) (by decide) ?_
  have hw : Wd D A s.heap [(q_t, .inr (6, [.ref a1, .ref a3, .ref a5, .ref a7, .null, .null, .null, .int 0, .int 0])), (a1, .inr (3, [.ref (u2 0), .ref (u2 1)])), ((u2 0), .inl (cI, 240, .inl (fun _ => 0))), ((u2 1), .inl (cI, 240, .inl (fun _ => 0))), (a3, .inr (0, [.ref (u4 0), .int 0])), ((u4 0), .inl (cI, 240, .inl (fun _ => 0))), (a5, .inr (5, [.ref (u6 0), .ref (u6 1), .ref (u6 2), .int 0, .int 0])), ((u6 0), .inl (cI, 240, .inl (fun _ => 0))), ((u6 1), .inl (cI, 240, .inl (fun _ => 0))), ((u6 2), .inl (cI, 241, .inl (fun _ => 0))), (a7, .inr (5, [.ref (u8 0), .ref (u8 1), .ref (u8 2), .int 0, .int 0])), ((u8 0), .inl (cI, 240, .inl (fun _ => 0))), ((u8 1), .inl (cI, 240, .inl (fun _ => 0))), ((u8 2), .inl (cI, 241, .inl (fun _ => 0))), (a9, .inr (1, [.int (1 : Int32), .long 0, .long 0, .int 0]))] H _ := hw
  refine g_putF (ci := 6) (C := RX6) (T := TX6) (N := 9) (ws' := [(q_t, .inr (6, [.ref a1, .ref a3, .ref a5, .ref a7, .ref a9, .null, .null, .int 0, .int 0])), (a1, .inr (3, [.ref (u2 0), .ref (u2 1)])), ((u2 0), .inl (cI, 240, .inl (fun _ => 0))), ((u2 1), .inl (cI, 240, .inl (fun _ => 0))), (a3, .inr (0, [.ref (u4 0), .int 0])), ((u4 0), .inl (cI, 240, .inl (fun _ => 0))), (a5, .inr (5, [.ref (u6 0), .ref (u6 1), .ref (u6 2), .int 0, .int 0])), ((u6 0), .inl (cI, 240, .inl (fun _ => 0))), ((u6 1), .inl (cI, 240, .inl (fun _ => 0))), ((u6 2), .inl (cI, 241, .inl (fun _ => 0))), (a7, .inr (5, [.ref (u8 0), .ref (u8 1), .ref (u8 2), .int 0, .int 0])), ((u8 0), .inl (cI, 240, .inl (fun _ => 0))), ((u8 1), .inl (cI, 240, .inl (fun _ => 0))), ((u8 2), .inl (cI, 241, .inl (fun _ => 0))), (a9, .inr (1, [.int (1 : Int32), .long 0, .long 0, .int 0]))]) S hinX6 tyX6 tyX6_ok nmX6 hK hw hnm 0 4 k36 dX6_init_56 rfl rfl (by decide) rfl rfl rfl rfl (Nat.le_of_ble_eq_true rfl) rfl (fun H locs hw => ?_)
  refine lv_aload_n hx hb dX6_init_59 rfl (lv_at hl 0 rfl) ?_
  refine g_new (ci := 2) (fs := [.null, .null]) (C := RX2) (T := TX2) (N := 2) S hinX2 tyX2 tyX2_ok (by decide +kernel) (by decide +kernel) (by decide +kernel) hK hw hA rfl (fun j hj => by rcases (show j = 0 ∨ j = 1 by omega) with rfl | rfl <;> rfl) (Nat.le_of_ble_eq_true rfl) (Nat.le_of_ble_eq_true rfl) dX6_init_60 (fun a11 H hw => ?_)
  refine W.widen (k := 15) (n := 2182) (by decide) (by decide) ?_
  have hw : Wd D A s.heap [(q_t, .inr (6, [.ref a1, .ref a3, .ref a5, .ref a7, .ref a9, .null, .null, .int 0, .int 0])), (a1, .inr (3, [.ref (u2 0), .ref (u2 1)])), ((u2 0), .inl (cI, 240, .inl (fun _ => 0))), ((u2 1), .inl (cI, 240, .inl (fun _ => 0))), (a3, .inr (0, [.ref (u4 0), .int 0])), ((u4 0), .inl (cI, 240, .inl (fun _ => 0))), (a5, .inr (5, [.ref (u6 0), .ref (u6 1), .ref (u6 2), .int 0, .int 0])), ((u6 0), .inl (cI, 240, .inl (fun _ => 0))), ((u6 1), .inl (cI, 240, .inl (fun _ => 0))), ((u6 2), .inl (cI, 241, .inl (fun _ => 0))), (a7, .inr (5, [.ref (u8 0), .ref (u8 1), .ref (u8 2), .int 0, .int 0])), ((u8 0), .inl (cI, 240, .inl (fun _ => 0))), ((u8 1), .inl (cI, 240, .inl (fun _ => 0))), ((u8 2), .inl (cI, 241, .inl (fun _ => 0))), (a9, .inr (1, [.int (1 : Int32), .long 0, .long 0, .int 0])), (a11, .inr (2, [.null, .null]))] H _ := hw
  refine lv_dup hx hb dX6_init_63 rfl ?_
  refine cl_n (wr := [(q_t, .inr (6, [.ref a1, .ref a3, .ref a5, .ref a7, .ref a9, .null, .null, .int 0, .int 0])), (a1, .inr (3, [.ref (u2 0), .ref (u2 1)])), ((u2 0), .inl (cI, 240, .inl (fun _ => 0))), ((u2 1), .inl (cI, 240, .inl (fun _ => 0))), (a3, .inr (0, [.ref (u4 0), .int 0])), ((u4 0), .inl (cI, 240, .inl (fun _ => 0))), (a5, .inr (5, [.ref (u6 0), .ref (u6 1), .ref (u6 2), .int 0, .int 0])), ((u6 0), .inl (cI, 240, .inl (fun _ => 0))), ((u6 1), .inl (cI, 240, .inl (fun _ => 0))), ((u6 2), .inl (cI, 241, .inl (fun _ => 0))), (a7, .inr (5, [.ref (u8 0), .ref (u8 1), .ref (u8 2), .int 0, .int 0])), ((u8 0), .inl (cI, 240, .inl (fun _ => 0))), ((u8 1), .inl (cI, 240, .inl (fun _ => 0))), ((u8 2), .inl (cI, 241, .inl (fun _ => 0))), (a9, .inr (1, [.int (1 : Int32), .long 0, .long 0, .int 0]))]) (ws2 := fun u12 => [(q_t, .inr (6, [.ref a1, .ref a3, .ref a5, .ref a7, .ref a9, .null, .null, .int 0, .int 0])), (a1, .inr (3, [.ref (u2 0), .ref (u2 1)])), ((u2 0), .inl (cI, 240, .inl (fun _ => 0))), ((u2 1), .inl (cI, 240, .inl (fun _ => 0))), (a3, .inr (0, [.ref (u4 0), .int 0])), ((u4 0), .inl (cI, 240, .inl (fun _ => 0))), (a5, .inr (5, [.ref (u6 0), .ref (u6 1), .ref (u6 2), .int 0, .int 0])), ((u6 0), .inl (cI, 240, .inl (fun _ => 0))), ((u6 1), .inl (cI, 240, .inl (fun _ => 0))), ((u6 2), .inl (cI, 241, .inl (fun _ => 0))), (a7, .inr (5, [.ref (u8 0), .ref (u8 1), .ref (u8 2), .int 0, .int 0])), ((u8 0), .inl (cI, 240, .inl (fun _ => 0))), ((u8 1), .inl (cI, 240, .inl (fun _ => 0))), ((u8 2), .inl (cI, 241, .inl (fun _ => 0))), (a9, .inr (1, [.int (1 : Int32), .long 0, .long 0, .int 0])), (a11, .inr (2, [.ref (u12 0), .ref (u12 1)])), ((u12 0), .inr (1, [.int (1 : Int32), .long 0, .long 0, .int 0])), ((u12 1), .inl (cJ, 64, .inr (.inl (fun _ => 0))))]) hA hw [15] [0, 1, 2, 3, 4, 5, 6, 7, 8, 9, 10, 11, 12, 13, 14] [0, 1, 2, 3, 4, 5, 6, 7, 8, 9, 10, 11, 12, 13, 14, 15, 16, 17] rfl rfl rfl (by decide) (fun _ => rfl) rfl (va_runIN (As := []) (rest := [.ref a11, .ref q_t]) S (n_X2_init l D cI cZ cJ cO _ a11) ⟨va_cnB 0 hts gX6_init_X2_init_n42 rfl rfl rfl (hN.1 _ nw_X6_42) (hts (.initialized RX2) (by decide +kernel)) (by decide +kernel) ⟨Nat.le_of_ble_eq_true rfl, Nat.le_of_ble_eq_true rfl⟩, rfl, hts (.instanceMethod yX2_init) (by decide +kernel)⟩ (pre_S (As := [.ref a11]) hK hN hw [15] rfl rfl) rfl rfl hl.1 rfl (lv_room (Nat.le_of_ble_eq_true rfl)) dX6_init_64 ⟨Nat.le_of_ble_eq_true rfl, Nat.le_of_ble_eq_true rfl⟩) (fun u12 H locs hw => ?_)
  refine W.widen (k := 17) (n := 2250) (by decide) (by decide) ?_
  have hw : Wd D A s.heap [(q_t, .inr (6, [.ref a1, .ref a3, .ref a5, .ref a7, .ref a9, .null, .null, .int 0, .int 0])), (a1, .inr (3, [.ref (u2 0), .ref (u2 1)])), ((u2 0), .inl (cI, 240, .inl (fun _ => 0))), ((u2 1), .inl (cI, 240, .inl (fun _ => 0))), (a3, .inr (0, [.ref (u4 0), .int 0])), ((u4 0), .inl (cI, 240, .inl (fun _ => 0))), (a5, .inr (5, [.ref (u6 0), .ref (u6 1), .ref (u6 2), .int 0, .int 0])), ((u6 0), .inl (cI, 240, .inl (fun _ => 0))), ((u6 1), .inl (cI, 240, .inl (fun _ => 0))), ((u6 2), .inl (cI, 241, .inl (fun _ => 0))), (a7, .inr (5, [.ref (u8 0), .ref (u8 1), .ref (u8 2), .int 0, .int 0])), ((u8 0), .inl (cI, 240, .inl (fun _ => 0))), ((u8 1), .inl (cI, 240, .inl (fun _ => 0))), ((u8 2), .inl (cI, 241, .inl (fun _ => 0))), (a9, .inr (1, [.int (1 : Int32), .long 0, .long 0, .int 0])), (a11, .inr (2, [.ref (u12 0), .ref (u12 1)])), ((u12 0), .inr (1, [.int (1 : Int32), .long 0, .long 0, .int 0])), ((u12 1), .inl (cJ, 64, .inr (.inl (fun _ => 0))))] H _ := hw
  refine g_putF (ci := 6) (C := RX6) (T := TX6) (N := 9) (ws' := [(q_t, .inr (6, [.ref a1, .ref a3, .ref a5, .ref a7, .ref a9, .ref a11, .null, .int 0, .int 0])), (a1, .inr (3, [.ref (u2 0), .ref (u2 1)])), ((u2 0), .inl (cI, 240, .inl (fun _ => 0))), ((u2 1), .inl (cI, 240, .inl (fun _ => 0))), (a3, .inr (0, [.ref (u4 0), .int 0])), ((u4 0), .inl (cI, 240, .inl (fun _ => 0))), (a5, .inr (5, [.ref (u6 0), .ref (u6 1), .ref (u6 2), .int 0, .int 0])), ((u6 0), .inl (cI, 240, .inl (fun _ => 0))), ((u6 1), .inl (cI, 240, .inl (fun _ => 0))), ((u6 2), .inl (cI, 241, .inl (fun _ => 0))), (a7, .inr (5, [.ref (u8 0), .ref (u8 1), .ref (u8 2), .int 0, .int 0])), ((u8 0), .inl (cI, 240, .inl (fun _ => 0))), ((u8 1), .inl (cI, 240, .inl (fun _ => 0))), ((u8 2), .inl (cI, 241, .inl (fun _ => 0))), (a9, .inr (1, [.int (1 : Int32), .long 0, .long 0, .int 0])), (a11, .inr (2, [.ref (u12 0), .ref (u12 1)])), ((u12 0), .inr (1, [.int (1 : Int32), .long 0, .long 0, .int 0])), ((u12 1), .inl (cJ, 64, .inr (.inl (fun _ => 0))))]) S hinX6 tyX6 tyX6_ok nmX6 hK hw hnm 0 5 k43 dX6_init_67 rfl rfl (by decide) rfl rfl rfl rfl (Nat.le_of_ble_eq_true rfl) rfl (fun H locs hw => ?_)
  refine lv_aload_n hx hb dX6_init_70 rfl (lv_at hl 0 rfl) ?_
  refine lv_iconst (v := (4 : Int32)) hx hb dX6_init_71 (by decide) ?_
  refine g_newq (cA := cO) (C := RX4) (N' := 4) S (by decide +kernel) hN.2 hK hw hA 3 rfl (by decide) rfl (by decide) (Nat.le_of_ble_eq_true rfl) (Nat.le_of_ble_eq_true rfl) dX6_init_72 (fun a13 H hw => ?_)
  refine W.widen (k := 18) (n := 2254) (by decide) (by decide) ?_
  have hw : Wd D A s.heap [(q_t, .inr (6, [.ref a1, .ref a3, .ref a5, .ref a7, .ref a9, .ref a11, .null, .int 0, .int 0])), (a1, .inr (3, [.ref (u2 0), .ref (u2 1)])), ((u2 0), .inl (cI, 240, .inl (fun _ => 0))), ((u2 1), .inl (cI, 240, .inl (fun _ => 0))), (a3, .inr (0, [.ref (u4 0), .int 0])), ((u4 0), .inl (cI, 240, .inl (fun _ => 0))), (a5, .inr (5, [.ref (u6 0), .ref (u6 1), .ref (u6 2), .int 0, .int 0])), ((u6 0), .inl (cI, 240, .inl (fun _ => 0))), ((u6 1), .inl (cI, 240, .inl (fun _ => 0))), ((u6 2), .inl (cI, 241, .inl (fun _ => 0))), (a7, .inr (5, [.ref (u8 0), .ref (u8 1), .ref (u8 2), .int 0, .int 0])), ((u8 0), .inl (cI, 240, .inl (fun _ => 0))), ((u8 1), .inl (cI, 240, .inl (fun _ => 0))), ((u8 2), .inl (cI, 241, .inl (fun _ => 0))), (a9, .inr (1, [.int (1 : Int32), .long 0, .long 0, .int 0])), (a11, .inr (2, [.ref (u12 0), .ref (u12 1)])), ((u12 0), .inr (1, [.int (1 : Int32), .long 0, .long 0, .int 0])), ((u12 1), .inl (cJ, 64, .inr (.inl (fun _ => 0)))), (a13, .inl (cO, 4, .inr (.inr (.inr (.inr (fun _ => none))))))] H _ := hw
  refine g_putF (ci := 6) (C := RX6) (T := TX6) (N := 9) (ws' := [(q_t, .inr (6, [.ref a1, .ref a3, .ref a5, .ref a7, .ref a9, .ref a11, .ref a13, .int 0, .int 0])), (a1, .inr (3, [.ref (u2 0), .ref (u2 1)])), ((u2 0), .inl (cI, 240, .inl (fun _ => 0))), ((u2 1), .inl (cI, 240, .inl (fun _ => 0))), (a3, .inr (0, [.ref (u4 0), .int 0])), ((u4 0), .inl (cI, 240, .inl (fun _ => 0))), (a5, .inr (5, [.ref (u6 0), .ref (u6 1), .ref (u6 2), .int 0, .int 0])), ((u6 0), .inl (cI, 240, .inl (fun _ => 0))), ((u6 1), .inl (cI, 240, .inl (fun _ => 0))), ((u6 2), .inl (cI, 241, .inl (fun _ => 0))), (a7, .inr (5, [.ref (u8 0), .ref (u8 1), .ref (u8 2), .int 0, .int 0])), ((u8 0), .inl (cI, 240, .inl (fun _ => 0))), ((u8 1), .inl (cI, 240, .inl (fun _ => 0))), ((u8 2), .inl (cI, 241, .inl (fun _ => 0))), (a9, .inr (1, [.int (1 : Int32), .long 0, .long 0, .int 0])), (a11, .inr (2, [.ref (u12 0), .ref (u12 1)])), ((u12 0), .inr (1, [.int (1 : Int32), .long 0, .long 0, .int 0])), ((u12 1), .inl (cJ, 64, .inr (.inl (fun _ => 0)))), (a13, .inl (cO, 4, .inr (.inr (.inr (.inr (fun _ => none))))))]) S hinX6 tyX6 tyX6_ok nmX6 hK hw hnm 0 6 k49 dX6_init_75 rfl rfl (by decide) rfl rfl rfl rfl (Nat.le_of_ble_eq_true rfl) rfl (fun H locs hw => ?_)
  refine lv_iconst (v := (0 : Int32)) hx hb dX6_init_78 (by decide) ?_
  refine lv_istore_n (lv' := [(1, .int (0 : Int32)), (0, .ref q_t)]) hx hb dX6_init_79 rfl hl (by decide) rfl (fun ls hl => ?_)
  refine lv_iload_n hx hb dX6_init_80 rfl (lv_at hl 0 rfl) ?_
  refine lv_aload_n hx hb dX6_init_81 rfl (lv_at hl 1 rfl) ?_
  refine g_get (ci := 6) (C := RX6) (T := TX6) (N := 9) S hinX6 hK hw 0 6 k49 dX6_init_82 rfl rfl (by decide) rfl ?_
  refine va_alen hx hb hK hw.1 18 3 rfl rfl (v := (4 : Int32)) rfl dX6_init_85 ?_
  refine lv_icmp_ge (tgt := 108) hx hb dX6_init_86 (by decide) (fun c9 => absurd c9 (by decide)) (fun _ => ?_)
  refine lv_aload_n hx hb dX6_init_89 rfl (lv_at hl 1 rfl) ?_
  refine g_get (ci := 6) (C := RX6) (T := TX6) (N := 9) S hinX6 hK hw 0 6 k49 dX6_init_90 rfl rfl (by decide) rfl ?_
  refine lv_iload_n hx hb dX6_init_93 rfl (lv_at hl 0 rfl) ?_
  refine g_new (ci := 4) (fs := [.null, .int 0, .int 0, .int 0]) (C := RX4) (T := TX4) (N := 4) S hinX4 tyX4 tyX4_ok (by decide +kernel) (by decide +kernel) (by decide +kernel) hK hw hA rfl (fun j hj => by rcases (show j = 0 ∨ j = 1 ∨ j = 2 ∨ j = 3 by omega) with rfl | rfl | rfl | rfl <;> rfl) (Nat.le_of_ble_eq_true rfl) (Nat.le_of_ble_eq_true rfl) dX6_init_94 (fun a14 H hw => ?_)
  refine W.widen (k := 19) (n := 2258) (by decide) (by decide) ?_
  have hw : Wd D A s.heap [(q_t, .inr (6, [.ref a1, .ref a3, .ref a5, .ref a7, .ref a9, .ref a11, .ref a13, .int 0, .int 0])), (a1, .inr (3, [.ref (u2 0), .ref (u2 1)])), ((u2 0), .inl (cI, 240, .inl (fun _ => 0))), ((u2 1), .inl (cI, 240, .inl (fun _ => 0))), (a3, .inr (0, [.ref (u4 0), .int 0])), ((u4 0), .inl (cI, 240, .inl (fun _ => 0))), (a5, .inr (5, [.ref (u6 0), .ref (u6 1), .ref (u6 2), .int 0, .int 0])), ((u6 0), .inl (cI, 240, .inl (fun _ => 0))), ((u6 1), .inl (cI, 240, .inl (fun _ => 0))), ((u6 2), .inl (cI, 241, .inl (fun _ => 0))), (a7, .inr (5, [.ref (u8 0), .ref (u8 1), .ref (u8 2), .int 0, .int 0])), ((u8 0), .inl (cI, 240, .inl (fun _ => 0))), ((u8 1), .inl (cI, 240, .inl (fun _ => 0))), ((u8 2), .inl (cI, 241, .inl (fun _ => 0))), (a9, .inr (1, [.int (1 : Int32), .long 0, .long 0, .int 0])), (a11, .inr (2, [.ref (u12 0), .ref (u12 1)])), ((u12 0), .inr (1, [.int (1 : Int32), .long 0, .long 0, .int 0])), ((u12 1), .inl (cJ, 64, .inr (.inl (fun _ => 0)))), (a13, .inl (cO, 4, .inr (.inr (.inr (.inr (fun _ => none)))))), (a14, .inr (4, [.null, .int 0, .int 0, .int 0]))] H _ := hw
  refine lv_dup hx hb dX6_init_97 rfl ?_
  refine cl_n (wr := [(q_t, .inr (6, [.ref a1, .ref a3, .ref a5, .ref a7, .ref a9, .ref a11, .ref a13, .int 0, .int 0])), (a1, .inr (3, [.ref (u2 0), .ref (u2 1)])), ((u2 0), .inl (cI, 240, .inl (fun _ => 0))), ((u2 1), .inl (cI, 240, .inl (fun _ => 0))), (a3, .inr (0, [.ref (u4 0), .int 0])), ((u4 0), .inl (cI, 240, .inl (fun _ => 0))), (a5, .inr (5, [.ref (u6 0), .ref (u6 1), .ref (u6 2), .int 0, .int 0])), ((u6 0), .inl (cI, 240, .inl (fun _ => 0))), ((u6 1), .inl (cI, 240, .inl (fun _ => 0))), ((u6 2), .inl (cI, 241, .inl (fun _ => 0))), (a7, .inr (5, [.ref (u8 0), .ref (u8 1), .ref (u8 2), .int 0, .int 0])), ((u8 0), .inl (cI, 240, .inl (fun _ => 0))), ((u8 1), .inl (cI, 240, .inl (fun _ => 0))), ((u8 2), .inl (cI, 241, .inl (fun _ => 0))), (a9, .inr (1, [.int (1 : Int32), .long 0, .long 0, .int 0])), (a11, .inr (2, [.ref (u12 0), .ref (u12 1)])), ((u12 0), .inr (1, [.int (1 : Int32), .long 0, .long 0, .int 0])), ((u12 1), .inl (cJ, 64, .inr (.inl (fun _ => 0)))), (a13, .inl (cO, 4, .inr (.inr (.inr (.inr (fun _ => none))))))]) (ws2 := fun u15 => [(q_t, .inr (6, [.ref a1, .ref a3, .ref a5, .ref a7, .ref a9, .ref a11, .ref a13, .int 0, .int 0])), (a1, .inr (3, [.ref (u2 0), .ref (u2 1)])), ((u2 0), .inl (cI, 240, .inl (fun _ => 0))), ((u2 1), .inl (cI, 240, .inl (fun _ => 0))), (a3, .inr (0, [.ref (u4 0), .int 0])), ((u4 0), .inl (cI, 240, .inl (fun _ => 0))), (a5, .inr (5, [.ref (u6 0), .ref (u6 1), .ref (u6 2), .int 0, .int 0])), ((u6 0), .inl (cI, 240, .inl (fun _ => 0))), ((u6 1), .inl (cI, 240, .inl (fun _ => 0))), ((u6 2), .inl (cI, 241, .inl (fun _ => 0))), (a7, .inr (5, [.ref (u8 0), .ref (u8 1), .ref (u8 2), .int 0, .int 0])), ((u8 0), .inl (cI, 240, .inl (fun _ => 0))), ((u8 1), .inl (cI, 240, .inl (fun _ => 0))), ((u8 2), .inl (cI, 241, .inl (fun _ => 0))), (a9, .inr (1, [.int (1 : Int32), .long 0, .long 0, .int 0])), (a11, .inr (2, [.ref (u12 0), .ref (u12 1)])), ((u12 0), .inr (1, [.int (1 : Int32), .long 0, .long 0, .int 0])), ((u12 1), .inl (cJ, 64, .inr (.inl (fun _ => 0)))), (a13, .inl (cO, 4, .inr (.inr (.inr (.inr (fun _ => none)))))), (a14, .inr (4, [.ref (u15 0), .int (1 : Int32), .int 0, .int 0])), ((u15 0), .inl (cI, 100, .inl (fun _ => 0)))]) hA hw [19] [0, 1, 2, 3, 4, 5, 6, 7, 8, 9, 10, 11, 12, 13, 14, 15, 16, 17, 18] [0, 1, 2, 3, 4, 5, 6, 7, 8, 9, 10, 11, 12, 13, 14, 15, 16, 17, 18, 19, 20] rfl rfl rfl (by decide) (fun _ => rfl) rfl (va_runIN (As := []) (rest := [.ref a14, .int (0 : Int32), .ref a13]) S (n_X4_init l D cI cZ cJ cO _ a14) ⟨va_cnB 0 hts gX6_init_X4_init_n53 rfl rfl rfl (hN.1 _ nw_X6_53) (hts (.initialized RX4) (by decide +kernel)) (by decide +kernel) ⟨Nat.le_of_ble_eq_true rfl, Nat.le_of_ble_eq_true rfl⟩, rfl, hts (.instanceMethod yX4_init) (by decide +kernel)⟩ (pre_S (As := [.ref a14]) hK hN hw [19] rfl rfl) rfl rfl hl.1 rfl (lv_room (Nat.le_of_ble_eq_true rfl)) dX6_init_98 ⟨Nat.le_of_ble_eq_true rfl, Nat.le_of_ble_eq_true rfl⟩) (fun u15 H locs hw => ?_)
  refine W.widen (k := 20) (n := 2358) (by decide) (by decide) ?_
  have hw : Wd D A s.heap [(q_t, .inr (6, [.ref a1, .ref a3, .ref a5, .ref a7, .ref a9, .ref a11, .ref a13, .int 0, .int 0])), (a1, .inr (3, [.ref (u2 0), .ref (u2 1)])), ((u2 0), .inl (cI, 240, .inl (fun _ => 0))), ((u2 1), .inl (cI, 240, .inl (fun _ => 0))), (a3, .inr (0, [.ref (u4 0), .int 0])), ((u4 0), .inl (cI, 240, .inl (fun _ => 0))), (a5, .inr (5, [.ref (u6 0), .ref (u6 1), .ref (u6 2), .int 0, .int 0])), ((u6 0), .inl (cI, 240, .inl (fun _ => 0))), ((u6 1), .inl (cI, 240, .inl (fun _ => 0))), ((u6 2), .inl (cI, 241, .inl (fun _ => 0))), (a7, .inr (5, [.ref (u8 0), .ref (u8 1), .ref (u8 2), .int 0, .int 0])), ((u8 0), .inl (cI, 240, .inl (fun _ => 0))), ((u8 1), .inl (cI, 240, .inl (fun _ => 0))), ((u8 2), .inl (cI, 241, .inl (fun _ => 0))), (a9, .inr (1, [.int (1 : Int32), .long 0, .long 0, .int 0])), (a11, .inr (2, [.ref (u12 0), .ref (u12 1)])), ((u12 0), .inr (1, [.int (1 : Int32), .long 0, .long 0, .int 0])), ((u12 1), .inl (cJ, 64, .inr (.inl (fun _ => 0)))), (a13, .inl (cO, 4, .inr (.inr (.inr (.inr (fun _ => none)))))), (a14, .inr (4, [.ref (u15 0), .int (1 : Int32), .int 0, .int 0])), ((u15 0), .inl (cI, 100, .inl (fun _ => 0)))] H _ := hw
  refine va_astq (r := (RX4, TX4, 4)) hx hb hK hw.1 hw.2.1 hw.2.2 18 3 19 4 rfl rfl rfl rfl (show vp_in (0 : Int32) 4 by unfold vp_in; decide) dX6_init_101 (fun H locs h1 h2 h3 => ?_)
  have hw : Wd D A s.heap [(q_t, .inr (6, [.ref a1, .ref a3, .ref a5, .ref a7, .ref a9, .ref a11, .ref a13, .int 0, .int 0])), (a1, .inr (3, [.ref (u2 0), .ref (u2 1)])), ((u2 0), .inl (cI, 240, .inl (fun _ => 0))), ((u2 1), .inl (cI, 240, .inl (fun _ => 0))), (a3, .inr (0, [.ref (u4 0), .int 0])), ((u4 0), .inl (cI, 240, .inl (fun _ => 0))), (a5, .inr (5, [.ref (u6 0), .ref (u6 1), .ref (u6 2), .int 0, .int 0])), ((u6 0), .inl (cI, 240, .inl (fun _ => 0))), ((u6 1), .inl (cI, 240, .inl (fun _ => 0))), ((u6 2), .inl (cI, 241, .inl (fun _ => 0))), (a7, .inr (5, [.ref (u8 0), .ref (u8 1), .ref (u8 2), .int 0, .int 0])), ((u8 0), .inl (cI, 240, .inl (fun _ => 0))), ((u8 1), .inl (cI, 240, .inl (fun _ => 0))), ((u8 2), .inl (cI, 241, .inl (fun _ => 0))), (a9, .inr (1, [.int (1 : Int32), .long 0, .long 0, .int 0])), (a11, .inr (2, [.ref (u12 0), .ref (u12 1)])), ((u12 0), .inr (1, [.int (1 : Int32), .long 0, .long 0, .int 0])), ((u12 1), .inl (cJ, 64, .inr (.inl (fun _ => 0)))), (a13, .inl (cO, 4, .inr (.inr (.inr (.inr (va_up (fun _ => none) (0 : Int32).toNatClampNeg (some a14))))))), (a14, .inr (4, [.ref (u15 0), .int (1 : Int32), .int 0, .int 0])), ((u15 0), .inl (cI, 100, .inl (fun _ => 0)))] H locs := ⟨h1, h2, h3⟩
  refine lv_iinc (v := (1 : Int32)) (lv' := [(1, .int (1 : Int32)), (0, .ref q_t)]) hx hb dX6_init_102 hl (k := 0) rfl (by decide) (by decide) rfl (fun ls hl => ?_)
  refine lv_goto (tgt := 80) hx hb dX6_init_105 (by decide) ?_
  refine lv_iload_n hx hb dX6_init_80 rfl (lv_at hl 0 rfl) ?_
  refine lv_aload_n hx hb dX6_init_81 rfl (lv_at hl 1 rfl) ?_
  refine g_get (ci := 6) (C := RX6) (T := TX6) (N := 9) S hinX6 hK hw 0 6 k49 dX6_init_82 rfl rfl (by decide) rfl ?_
  refine va_alen hx hb hK hw.1 18 3 rfl rfl (v := (4 : Int32)) rfl dX6_init_85 ?_
  refine lv_icmp_ge (tgt := 108) hx hb dX6_init_86 (by decide) (fun c9 => absurd c9 (by decide)) (fun _ => ?_)
  refine lv_aload_n hx hb dX6_init_89 rfl (lv_at hl 1 rfl) ?_
  refine g_get (ci := 6) (C := RX6) (T := TX6) (N := 9) S hinX6 hK hw 0 6 k49 dX6_init_90 rfl rfl (by decide) rfl ?_
  refine lv_iload_n hx hb dX6_init_93 rfl (lv_at hl 0 rfl) ?_
  refine g_new (ci := 4) (fs := [.null, .int 0, .int 0, .int 0]) (C := RX4) (T := TX4) (N := 4) S hinX4 tyX4 tyX4_ok (by decide +kernel) (by decide +kernel) (by decide +kernel) hK hw hA rfl (fun j hj => by rcases (show j = 0 ∨ j = 1 ∨ j = 2 ∨ j = 3 by omega) with rfl | rfl | rfl | rfl <;> rfl) (Nat.le_of_ble_eq_true rfl) (Nat.le_of_ble_eq_true rfl) dX6_init_94 (fun a16 H hw => ?_)
  refine W.widen (k := 21) (n := 2362) (by decide) (by decide) ?_
  have hw : Wd D A s.heap [(q_t, .inr (6, [.ref a1, .ref a3, .ref a5, .ref a7, .ref a9, .ref a11, .ref a13, .int 0, .int 0])), (a1, .inr (3, [.ref (u2 0), .ref (u2 1)])), ((u2 0), .inl (cI, 240, .inl (fun _ => 0))), ((u2 1), .inl (cI, 240, .inl (fun _ => 0))), (a3, .inr (0, [.ref (u4 0), .int 0])), ((u4 0), .inl (cI, 240, .inl (fun _ => 0))), (a5, .inr (5, [.ref (u6 0), .ref (u6 1), .ref (u6 2), .int 0, .int 0])), ((u6 0), .inl (cI, 240, .inl (fun _ => 0))), ((u6 1), .inl (cI, 240, .inl (fun _ => 0))), ((u6 2), .inl (cI, 241, .inl (fun _ => 0))), (a7, .inr (5, [.ref (u8 0), .ref (u8 1), .ref (u8 2), .int 0, .int 0])), ((u8 0), .inl (cI, 240, .inl (fun _ => 0))), ((u8 1), .inl (cI, 240, .inl (fun _ => 0))), ((u8 2), .inl (cI, 241, .inl (fun _ => 0))), (a9, .inr (1, [.int (1 : Int32), .long 0, .long 0, .int 0])), (a11, .inr (2, [.ref (u12 0), .ref (u12 1)])), ((u12 0), .inr (1, [.int (1 : Int32), .long 0, .long 0, .int 0])), ((u12 1), .inl (cJ, 64, .inr (.inl (fun _ => 0)))), (a13, .inl (cO, 4, .inr (.inr (.inr (.inr (va_up (fun _ => none) (0 : Int32).toNatClampNeg (some a14))))))), (a14, .inr (4, [.ref (u15 0), .int (1 : Int32), .int 0, .int 0])), ((u15 0), .inl (cI, 100, .inl (fun _ => 0))), (a16, .inr (4, [.null, .int 0, .int 0, .int 0]))] H _ := hw
  refine lv_dup hx hb dX6_init_97 rfl ?_
  refine cl_n (wr := [(q_t, .inr (6, [.ref a1, .ref a3, .ref a5, .ref a7, .ref a9, .ref a11, .ref a13, .int 0, .int 0])), (a1, .inr (3, [.ref (u2 0), .ref (u2 1)])), ((u2 0), .inl (cI, 240, .inl (fun _ => 0))), ((u2 1), .inl (cI, 240, .inl (fun _ => 0))), (a3, .inr (0, [.ref (u4 0), .int 0])), ((u4 0), .inl (cI, 240, .inl (fun _ => 0))), (a5, .inr (5, [.ref (u6 0), .ref (u6 1), .ref (u6 2), .int 0, .int 0])), ((u6 0), .inl (cI, 240, .inl (fun _ => 0))), ((u6 1), .inl (cI, 240, .inl (fun _ => 0))), ((u6 2), .inl (cI, 241, .inl (fun _ => 0))), (a7, .inr (5, [.ref (u8 0), .ref (u8 1), .ref (u8 2), .int 0, .int 0])), ((u8 0), .inl (cI, 240, .inl (fun _ => 0))), ((u8 1), .inl (cI, 240, .inl (fun _ => 0))), ((u8 2), .inl (cI, 241, .inl (fun _ => 0))), (a9, .inr (1, [.int (1 : Int32), .long 0, .long 0, .int 0])), (a11, .inr (2, [.ref (u12 0), .ref (u12 1)])), ((u12 0), .inr (1, [.int (1 : Int32), .long 0, .long 0, .int 0])), ((u12 1), .inl (cJ, 64, .inr (.inl (fun _ => 0)))), (a13, .inl (cO, 4, .inr (.inr (.inr (.inr (va_up (fun _ => none) (0 : Int32).toNatClampNeg (some a14))))))), (a14, .inr (4, [.ref (u15 0), .int (1 : Int32), .int 0, .int 0])), ((u15 0), .inl (cI, 100, .inl (fun _ => 0)))]) (ws2 := fun u17 => [(q_t, .inr (6, [.ref a1, .ref a3, .ref a5, .ref a7, .ref a9, .ref a11, .ref a13, .int 0, .int 0])), (a1, .inr (3, [.ref (u2 0), .ref (u2 1)])), ((u2 0), .inl (cI, 240, .inl (fun _ => 0))), ((u2 1), .inl (cI, 240, .inl (fun _ => 0))), (a3, .inr (0, [.ref (u4 0), .int 0])), ((u4 0), .inl (cI, 240, .inl (fun _ => 0))), (a5, .inr (5, [.ref (u6 0), .ref (u6 1), .ref (u6 2), .int 0, .int 0])), ((u6 0), .inl (cI, 240, .inl (fun _ => 0))), ((u6 1), .inl (cI, 240, .inl (fun _ => 0))), ((u6 2), .inl (cI, 241, .inl (fun _ => 0))), (a7, .inr (5, [.ref (u8 0), .ref (u8 1), .ref (u8 2), .int 0, .int 0])), ((u8 0), .inl (cI, 240, .inl (fun _ => 0))), ((u8 1), .inl (cI, 240, .inl (fun _ => 0))), ((u8 2), .inl (cI, 241, .inl (fun _ => 0))), (a9, .inr (1, [.int (1 : Int32), .long 0, .long 0, .int 0])), (a11, .inr (2, [.ref (u12 0), .ref (u12 1)])), ((u12 0), .inr (1, [.int (1 : Int32), .long 0, .long 0, .int 0])), ((u12 1), .inl (cJ, 64, .inr (.inl (fun _ => 0)))), (a13, .inl (cO, 4, .inr (.inr (.inr (.inr (va_up (fun _ => none) (0 : Int32).toNatClampNeg (some a14))))))), (a14, .inr (4, [.ref (u15 0), .int (1 : Int32), .int 0, .int 0])), ((u15 0), .inl (cI, 100, .inl (fun _ => 0))), (a16, .inr (4, [.ref (u17 0), .int (1 : Int32), .int 0, .int 0])), ((u17 0), .inl (cI, 100, .inl (fun _ => 0)))]) hA hw [21] [0, 1, 2, 3, 4, 5, 6, 7, 8, 9, 10, 11, 12, 13, 14, 15, 16, 17, 18, 19, 20] [0, 1, 2, 3, 4, 5, 6, 7, 8, 9, 10, 11, 12, 13, 14, 15, 16, 17, 18, 19, 20, 21, 22] rfl rfl rfl (by decide) (fun _ => rfl) rfl (va_runIN (As := []) (rest := [.ref a16, .int (1 : Int32), .ref a13]) S (n_X4_init l D cI cZ cJ cO _ a16) ⟨va_cnB 0 hts gX6_init_X4_init_n53 rfl rfl rfl (hN.1 _ nw_X6_53) (hts (.initialized RX4) (by decide +kernel)) (by decide +kernel) ⟨Nat.le_of_ble_eq_true rfl, Nat.le_of_ble_eq_true rfl⟩, rfl, hts (.instanceMethod yX4_init) (by decide +kernel)⟩ (pre_S (As := [.ref a16]) hK hN hw [21] rfl rfl) rfl rfl hl.1 rfl (lv_room (Nat.le_of_ble_eq_true rfl)) dX6_init_98 ⟨Nat.le_of_ble_eq_true rfl, Nat.le_of_ble_eq_true rfl⟩) (fun u17 H locs hw => ?_)
  refine W.widen (k := 22) (n := 2462) (by decide) (by decide) ?_
  have hw : Wd D A s.heap [(q_t, .inr (6, [.ref a1, .ref a3, .ref a5, .ref a7, .ref a9, .ref a11, .ref a13, .int 0, .int 0])), (a1, .inr (3, [.ref (u2 0), .ref (u2 1)])), ((u2 0), .inl (cI, 240, .inl (fun _ => 0))), ((u2 1), .inl (cI, 240, .inl (fun _ => 0))), (a3, .inr (0, [.ref (u4 0), .int 0])), ((u4 0), .inl (cI, 240, .inl (fun _ => 0))), (a5, .inr (5, [.ref (u6 0), .ref (u6 1), .ref (u6 2), .int 0, .int 0])), ((u6 0), .inl (cI, 240, .inl (fun _ => 0))), ((u6 1), .inl (cI, 240, .inl (fun _ => 0))), ((u6 2), .inl (cI, 241, .inl (fun _ => 0))), (a7, .inr (5, [.ref (u8 0), .ref (u8 1), .ref (u8 2), .int 0, .int 0])), ((u8 0), .inl (cI, 240, .inl (fun _ => 0))), ((u8 1), .inl (cI, 240, .inl (fun _ => 0))), ((u8 2), .inl (cI, 241, .inl (fun _ => 0))), (a9, .inr (1, [.int (1 : Int32), .long 0, .long 0, .int 0])), (a11, .inr (2, [.ref (u12 0), .ref (u12 1)])), ((u12 0), .inr (1, [.int (1 : Int32), .long 0, .long 0, .int 0])), ((u12 1), .inl (cJ, 64, .inr (.inl (fun _ => 0)))), (a13, .inl (cO, 4, .inr (.inr (.inr (.inr (va_up (fun _ => none) (0 : Int32).toNatClampNeg (some a14))))))), (a14, .inr (4, [.ref (u15 0), .int (1 : Int32), .int 0, .int 0])), ((u15 0), .inl (cI, 100, .inl (fun _ => 0))), (a16, .inr (4, [.ref (u17 0), .int (1 : Int32), .int 0, .int 0])), ((u17 0), .inl (cI, 100, .inl (fun _ => 0)))] H _ := hw
  refine va_astq (r := (RX4, TX4, 4)) hx hb hK hw.1 hw.2.1 hw.2.2 18 3 21 4 rfl rfl rfl rfl (show vp_in (1 : Int32) 4 by unfold vp_in; decide) dX6_init_101 (fun H locs h1 h2 h3 => ?_)
  have hw : Wd D A s.heap [(q_t, .inr (6, [.ref a1, .ref a3, .ref a5, .ref a7, .ref a9, .ref a11, .ref a13, .int 0, .int 0])), (a1, .inr (3, [.ref (u2 0), .ref (u2 1)])), ((u2 0), .inl (cI, 240, .inl (fun _ => 0))), ((u2 1), .inl (cI, 240, .inl (fun _ => 0))), (a3, .inr (0, [.ref (u4 0), .int 0])), ((u4 0), .inl (cI, 240, .inl (fun _ => 0))), (a5, .inr (5, [.ref (u6 0), .ref (u6 1), .ref (u6 2), .int 0, .int 0])), ((u6 0), .inl (cI, 240, .inl (fun _ => 0))), ((u6 1), .inl (cI, 240, .inl (fun _ => 0))), ((u6 2), .inl (cI, 241, .inl (fun _ => 0))), (a7, .inr (5, [.ref (u8 0), .ref (u8 1), .ref (u8 2), .int 0, .int 0])), ((u8 0), .inl (cI, 240, .inl (fun _ => 0))), ((u8 1), .inl (cI, 240, .inl (fun _ => 0))), ((u8 2), .inl (cI, 241, .inl (fun _ => 0))), (a9, .inr (1, [.int (1 : Int32), .long 0, .long 0, .int 0])), (a11, .inr (2, [.ref (u12 0), .ref (u12 1)])), ((u12 0), .inr (1, [.int (1 : Int32), .long 0, .long 0, .int 0])), ((u12 1), .inl (cJ, 64, .inr (.inl (fun _ => 0)))), (a13, .inl (cO, 4, .inr (.inr (.inr (.inr (va_up (va_up (fun _ => none) (0 : Int32).toNatClampNeg (some a14)) (1 : Int32).toNatClampNeg (some a16))))))), (a14, .inr (4, [.ref (u15 0), .int (1 : Int32), .int 0, .int 0])), ((u15 0), .inl (cI, 100, .inl (fun _ => 0))), (a16, .inr (4, [.ref (u17 0), .int (1 : Int32), .int 0, .int 0])), ((u17 0), .inl (cI, 100, .inl (fun _ => 0)))] H locs := ⟨h1, h2, h3⟩
  refine lv_iinc (v := (2 : Int32)) (lv' := [(1, .int (2 : Int32)), (0, .ref q_t)]) hx hb dX6_init_102 hl (k := 0) rfl (by decide) (by decide) rfl (fun ls hl => ?_)
  refine lv_goto (tgt := 80) hx hb dX6_init_105 (by decide) ?_
  refine lv_iload_n hx hb dX6_init_80 rfl (lv_at hl 0 rfl) ?_
  refine lv_aload_n hx hb dX6_init_81 rfl (lv_at hl 1 rfl) ?_
  refine g_get (ci := 6) (C := RX6) (T := TX6) (N := 9) S hinX6 hK hw 0 6 k49 dX6_init_82 rfl rfl (by decide) rfl ?_
  refine va_alen hx hb hK hw.1 18 3 rfl rfl (v := (4 : Int32)) rfl dX6_init_85 ?_
  refine lv_icmp_ge (tgt := 108) hx hb dX6_init_86 (by decide) (fun c9 => absurd c9 (by decide)) (fun _ => ?_)
  refine lv_aload_n hx hb dX6_init_89 rfl (lv_at hl 1 rfl) ?_
  refine g_get (ci := 6) (C := RX6) (T := TX6) (N := 9) S hinX6 hK hw 0 6 k49 dX6_init_90 rfl rfl (by decide) rfl ?_
  refine lv_iload_n hx hb dX6_init_93 rfl (lv_at hl 0 rfl) ?_
  refine g_new (ci := 4) (fs := [.null, .int 0, .int 0, .int 0]) (C := RX4) (T := TX4) (N := 4) S hinX4 tyX4 tyX4_ok (by decide +kernel) (by decide +kernel) (by decide +kernel) hK hw hA rfl (fun j hj => by rcases (show j = 0 ∨ j = 1 ∨ j = 2 ∨ j = 3 by omega) with rfl | rfl | rfl | rfl <;> rfl) (Nat.le_of_ble_eq_true rfl) (Nat.le_of_ble_eq_true rfl) dX6_init_94 (fun a18 H hw => ?_)
  refine W.widen (k := 23) (n := 2466) (by decide) (by decide) ?_
  have hw : Wd D A s.heap [(q_t, .inr (6, [.ref a1, .ref a3, .ref a5, .ref a7, .ref a9, .ref a11, .ref a13, .int 0, .int 0])), (a1, .inr (3, [.ref (u2 0), .ref (u2 1)])), ((u2 0), .inl (cI, 240, .inl (fun _ => 0))), ((u2 1), .inl (cI, 240, .inl (fun _ => 0))), (a3, .inr (0, [.ref (u4 0), .int 0])), ((u4 0), .inl (cI, 240, .inl (fun _ => 0))), (a5, .inr (5, [.ref (u6 0), .ref (u6 1), .ref (u6 2), .int 0, .int 0])), ((u6 0), .inl (cI, 240, .inl (fun _ => 0))), ((u6 1), .inl (cI, 240, .inl (fun _ => 0))), ((u6 2), .inl (cI, 241, .inl (fun _ => 0))), (a7, .inr (5, [.ref (u8 0), .ref (u8 1), .ref (u8 2), .int 0, .int 0])), ((u8 0), .inl (cI, 240, .inl (fun _ => 0))), ((u8 1), .inl (cI, 240, .inl (fun _ => 0))), ((u8 2), .inl (cI, 241, .inl (fun _ => 0))), (a9, .inr (1, [.int (1 : Int32), .long 0, .long 0, .int 0])), (a11, .inr (2, [.ref (u12 0), .ref (u12 1)])), ((u12 0), .inr (1, [.int (1 : Int32), .long 0, .long 0, .int 0])), ((u12 1), .inl (cJ, 64, .inr (.inl (fun _ => 0)))), (a13, .inl (cO, 4, .inr (.inr (.inr (.inr (va_up (va_up (fun _ => none) (0 : Int32).toNatClampNeg (some a14)) (1 : Int32).toNatClampNeg (some a16))))))), (a14, .inr (4, [.ref (u15 0), .int (1 : Int32), .int 0, .int 0])), ((u15 0), .inl (cI, 100, .inl (fun _ => 0))), (a16, .inr (4, [.ref (u17 0), .int (1 : Int32), .int 0, .int 0])), ((u17 0), .inl (cI, 100, .inl (fun _ => 0))), (a18, .inr (4, [.null, .int 0, .int 0, .int 0]))] H _ := hw
  refine lv_dup hx hb dX6_init_97 rfl ?_
  refine cl_n (wr := [(q_t, .inr (6, [.ref a1, .ref a3, .ref a5, .ref a7, .ref a9, .ref a11, .ref a13, .int 0, .int 0])), (a1, .inr (3, [.ref (u2 0), .ref (u2 1)])), ((u2 0), .inl (cI, 240, .inl (fun _ => 0))), ((u2 1), .inl (cI, 240, .inl (fun _ => 0))), (a3, .inr (0, [.ref (u4 0), .int 0])), ((u4 0), .inl (cI, 240, .inl (fun _ => 0))), (a5, .inr (5, [.ref (u6 0), .ref (u6 1), .ref (u6 2), .int 0, .int 0])), ((u6 0), .inl (cI, 240, .inl (fun _ => 0))), ((u6 1), .inl (cI, 240, .inl (fun _ => 0))), ((u6 2), .inl (cI, 241, .inl (fun _ => 0))), (a7, .inr (5, [.ref (u8 0), .ref (u8 1), .ref (u8 2), .int 0, .int 0])), ((u8 0), .inl (cI, 240, .inl (fun _ => 0))), ((u8 1), .inl (cI, 240, .inl (fun _ => 0))), ((u8 2), .inl (cI, 241, .inl (fun _ => 0))), (a9, .inr (1, [.int (1 : Int32), .long 0, .long 0, .int 0])), (a11, .inr (2, [.ref (u12 0), .ref (u12 1)])), ((u12 0), .inr (1, [.int (1 : Int32), .long 0, .long 0, .int 0])), ((u12 1), .inl (cJ, 64, .inr (.inl (fun _ => 0)))), (a13, .inl (cO, 4, .inr (.inr (.inr (.inr (va_up (va_up (fun _ => none) (0 : Int32).toNatClampNeg (some a14)) (1 : Int32).toNatClampNeg (some a16))))))), (a14, .inr (4, [.ref (u15 0), .int (1 : Int32), .int 0, .int 0])), ((u15 0), .inl (cI, 100, .inl (fun _ => 0))), (a16, .inr (4, [.ref (u17 0), .int (1 : Int32), .int 0, .int 0])), ((u17 0), .inl (cI, 100, .inl (fun _ => 0)))]) (ws2 := fun u19 => [(q_t, .inr (6, [.ref a1, .ref a3, .ref a5, .ref a7, .ref a9, .ref a11, .ref a13, .int 0, .int 0])), (a1, .inr (3, [.ref (u2 0), .ref (u2 1)])), ((u2 0), .inl (cI, 240, .inl (fun _ => 0))), ((u2 1), .inl (cI, 240, .inl (fun _ => 0))), (a3, .inr (0, [.ref (u4 0), .int 0])), ((u4 0), .inl (cI, 240, .inl (fun _ => 0))), (a5, .inr (5, [.ref (u6 0), .ref (u6 1), .ref (u6 2), .int 0, .int 0])), ((u6 0), .inl (cI, 240, .inl (fun _ => 0))), ((u6 1), .inl (cI, 240, .inl (fun _ => 0))), ((u6 2), .inl (cI, 241, .inl (fun _ => 0))), (a7, .inr (5, [.ref (u8 0), .ref (u8 1), .ref (u8 2), .int 0, .int 0])), ((u8 0), .inl (cI, 240, .inl (fun _ => 0))), ((u8 1), .inl (cI, 240, .inl (fun _ => 0))), ((u8 2), .inl (cI, 241, .inl (fun _ => 0))), (a9, .inr (1, [.int (1 : Int32), .long 0, .long 0, .int 0])), (a11, .inr (2, [.ref (u12 0), .ref (u12 1)])), ((u12 0), .inr (1, [.int (1 : Int32), .long 0, .long 0, .int 0])), ((u12 1), .inl (cJ, 64, .inr (.inl (fun _ => 0)))), (a13, .inl (cO, 4, .inr (.inr (.inr (.inr (va_up (va_up (fun _ => none) (0 : Int32).toNatClampNeg (some a14)) (1 : Int32).toNatClampNeg (some a16))))))), (a14, .inr (4, [.ref (u15 0), .int (1 : Int32), .int 0, .int 0])), ((u15 0), .inl (cI, 100, .inl (fun _ => 0))), (a16, .inr (4, [.ref (u17 0), .int (1 : Int32), .int 0, .int 0])), ((u17 0), .inl (cI, 100, .inl (fun _ => 0))), (a18, .inr (4, [.ref (u19 0), .int (1 : Int32), .int 0, .int 0])), ((u19 0), .inl (cI, 100, .inl (fun _ => 0)))]) hA hw [23] [0, 1, 2, 3, 4, 5, 6, 7, 8, 9, 10, 11, 12, 13, 14, 15, 16, 17, 18, 19, 20, 21, 22] [0, 1, 2, 3, 4, 5, 6, 7, 8, 9, 10, 11, 12, 13, 14, 15, 16, 17, 18, 19, 20, 21, 22, 23, 24] rfl rfl rfl (by decide) (fun _ => rfl) rfl (va_runIN (As := []) (rest := [.ref a18, .int (2 : Int32), .ref a13]) S (n_X4_init l D cI cZ cJ cO _ a18) ⟨va_cnB 0 hts gX6_init_X4_init_n53 rfl rfl rfl (hN.1 _ nw_X6_53) (hts (.initialized RX4) (by decide +kernel)) (by decide +kernel) ⟨Nat.le_of_ble_eq_true rfl, Nat.le_of_ble_eq_true rfl⟩, rfl, hts (.instanceMethod yX4_init) (by decide +kernel)⟩ (pre_S (As := [.ref a18]) hK hN hw [23] rfl rfl) rfl rfl hl.1 rfl (lv_room (Nat.le_of_ble_eq_true rfl)) dX6_init_98 ⟨Nat.le_of_ble_eq_true rfl, Nat.le_of_ble_eq_true rfl⟩) (fun u19 H locs hw => ?_)
  refine W.widen (k := 24) (n := 2566) (by decide) (by decide) ?_
  have hw : Wd D A s.heap [(q_t, .inr (6, [.ref a1, .ref a3, .ref a5, .ref a7, .ref a9, .ref a11, .ref a13, .int 0, .int 0])), (a1, .inr (3, [.ref (u2 0), .ref (u2 1)])), ((u2 0), .inl (cI, 240, .inl (fun _ => 0))), ((u2 1), .inl (cI, 240, .inl (fun _ => 0))), (a3, .inr (0, [.ref (u4 0), .int 0])), ((u4 0), .inl (cI, 240, .inl (fun _ => 0))), (a5, .inr (5, [.ref (u6 0), .ref (u6 1), .ref (u6 2), .int 0, .int 0])), ((u6 0), .inl (cI, 240, .inl (fun _ => 0))), ((u6 1), .inl (cI, 240, .inl (fun _ => 0))), ((u6 2), .inl (cI, 241, .inl (fun _ => 0))), (a7, .inr (5, [.ref (u8 0), .ref (u8 1), .ref (u8 2), .int 0, .int 0])), ((u8 0), .inl (cI, 240, .inl (fun _ => 0))), ((u8 1), .inl (cI, 240, .inl (fun _ => 0))), ((u8 2), .inl (cI, 241, .inl (fun _ => 0))), (a9, .inr (1, [.int (1 : Int32), .long 0, .long 0, .int 0])), (a11, .inr (2, [.ref (u12 0), .ref (u12 1)])), ((u12 0), .inr (1, [.int (1 : Int32), .long 0, .long 0, .int 0])), ((u12 1), .inl (cJ, 64, .inr (.inl (fun _ => 0)))), (a13, .inl (cO, 4, .inr (.inr (.inr (.inr (va_up (va_up (fun _ => none) (0 : Int32).toNatClampNeg (some a14)) (1 : Int32).toNatClampNeg (some a16))))))), (a14, .inr (4, [.ref (u15 0), .int (1 : Int32), .int 0, .int 0])), ((u15 0), .inl (cI, 100, .inl (fun _ => 0))), (a16, .inr (4, [.ref (u17 0), .int (1 : Int32), .int 0, .int 0])), ((u17 0), .inl (cI, 100, .inl (fun _ => 0))), (a18, .inr (4, [.ref (u19 0), .int (1 : Int32), .int 0, .int 0])), ((u19 0), .inl (cI, 100, .inl (fun _ => 0)))] H _ := hw
  refine va_astq (r := (RX4, TX4, 4)) hx hb hK hw.1 hw.2.1 hw.2.2 18 3 23 4 rfl rfl rfl rfl (show vp_in (2 : Int32) 4 by unfold vp_in; decide) dX6_init_101 (fun H locs h1 h2 h3 => ?_)
  have hw : Wd D A s.heap [(q_t, .inr (6, [.ref a1, .ref a3, .ref a5, .ref a7, .ref a9, .ref a11, .ref a13, .int 0, .int 0])), (a1, .inr (3, [.ref (u2 0), .ref (u2 1)])), ((u2 0), .inl (cI, 240, .inl (fun _ => 0))), ((u2 1), .inl (cI, 240, .inl (fun _ => 0))), (a3, .inr (0, [.ref (u4 0), .int 0])), ((u4 0), .inl (cI, 240, .inl (fun _ => 0))), (a5, .inr (5, [.ref (u6 0), .ref (u6 1), .ref (u6 2), .int 0, .int 0])), ((u6 0), .inl (cI, 240, .inl (fun _ => 0))), ((u6 1), .inl (cI, 240, .inl (fun _ => 0))), ((u6 2), .inl (cI, 241, .inl (fun _ => 0))), (a7, .inr (5, [.ref (u8 0), .ref (u8 1), .ref (u8 2), .int 0, .int 0])), ((u8 0), .inl (cI, 240, .inl (fun _ => 0))), ((u8 1), .inl (cI, 240, .inl (fun _ => 0))), ((u8 2), .inl (cI, 241, .inl (fun _ => 0))), (a9, .inr (1, [.int (1 : Int32), .long 0, .long 0, .int 0])), (a11, .inr (2, [.ref (u12 0), .ref (u12 1)])), ((u12 0), .inr (1, [.int (1 : Int32), .long 0, .long 0, .int 0])), ((u12 1), .inl (cJ, 64, .inr (.inl (fun _ => 0)))), (a13, .inl (cO, 4, .inr (.inr (.inr (.inr (va_up (va_up (va_up (fun _ => none) (0 : Int32).toNatClampNeg (some a14)) (1 : Int32).toNatClampNeg (some a16)) (2 : Int32).toNatClampNeg (some a18))))))), (a14, .inr (4, [.ref (u15 0), .int (1 : Int32), .int 0, .int 0])), ((u15 0), .inl (cI, 100, .inl (fun _ => 0))), (a16, .inr (4, [.ref (u17 0), .int (1 : Int32), .int 0, .int 0])), ((u17 0), .inl (cI, 100, .inl (fun _ => 0))), (a18, .inr (4, [.ref (u19 0), .int (1 : Int32), .int 0, .int 0])), ((u19 0), .inl (cI, 100, .inl (fun _ => 0)))] H locs := ⟨h1, h2, h3⟩
  refine lv_iinc (v := (3 : Int32)) (lv' := [(1, .int (3 : Int32)), (0, .ref q_t)]) hx hb dX6_init_102 hl (k := 0) rfl (by decide) (by decide) rfl (fun ls hl => ?_)
  refine lv_goto (tgt := 80) hx hb dX6_init_105 (by decide) ?_
  refine lv_iload_n hx hb dX6_init_80 rfl (lv_at hl 0 rfl) ?_
  refine lv_aload_n hx hb dX6_init_81 rfl (lv_at hl 1 rfl) ?_
  refine g_get (ci := 6) (C := RX6) (T := TX6) (N := 9) S hinX6 hK hw 0 6 k49 dX6_init_82 rfl rfl (by decide) rfl ?_
  refine va_alen hx hb hK hw.1 18 3 rfl rfl (v := (4 : Int32)) rfl dX6_init_85 ?_
  refine lv_icmp_ge (tgt := 108) hx hb dX6_init_86 (by decide) (fun c9 => absurd c9 (by decide)) (fun _ => ?_)
  refine lv_aload_n hx hb dX6_init_89 rfl (lv_at hl 1 rfl) ?_
  refine g_get (ci := 6) (C := RX6) (T := TX6) (N := 9) S hinX6 hK hw 0 6 k49 dX6_init_90 rfl rfl (by decide) rfl ?_
  refine lv_iload_n hx hb dX6_init_93 rfl (lv_at hl 0 rfl) ?_
  refine g_new (ci := 4) (fs := [.null, .int 0, .int 0, .int 0]) (C := RX4) (T := TX4) (N := 4) S hinX4 tyX4 tyX4_ok (by decide +kernel) (by decide +kernel) (by decide +kernel) hK hw hA rfl (fun j hj => by rcases (show j = 0 ∨ j = 1 ∨ j = 2 ∨ j = 3 by omega) with rfl | rfl | rfl | rfl <;> rfl) (Nat.le_of_ble_eq_true rfl) (Nat.le_of_ble_eq_true rfl) dX6_init_94 (fun a20 H hw => ?_)
  refine W.widen (k := 25) (n := 2570) (by decide) (by decide) ?_
  have hw : Wd D A s.heap [(q_t, .inr (6, [.ref a1, .ref a3, .ref a5, .ref a7, .ref a9, .ref a11, .ref a13, .int 0, .int 0])), (a1, .inr (3, [.ref (u2 0), .ref (u2 1)])), ((u2 0), .inl (cI, 240, .inl (fun _ => 0))), ((u2 1), .inl (cI, 240, .inl (fun _ => 0))), (a3, .inr (0, [.ref (u4 0), .int 0])), ((u4 0), .inl (cI, 240, .inl (fun _ => 0))), (a5, .inr (5, [.ref (u6 0), .ref (u6 1), .ref (u6 2), .int 0, .int 0])), ((u6 0), .inl (cI, 240, .inl (fun _ => 0))), ((u6 1), .inl (cI, 240, .inl (fun _ => 0))), ((u6 2), .inl (cI, 241, .inl (fun _ => 0))), (a7, .inr (5, [.ref (u8 0), .ref (u8 1), .ref (u8 2), .int 0, .int 0])), ((u8 0), .inl (cI, 240, .inl (fun _ => 0))), ((u8 1), .inl (cI, 240, .inl (fun _ => 0))), ((u8 2), .inl (cI, 241, .inl (fun _ => 0))), (a9, .inr (1, [.int (1 : Int32), .long 0, .long 0, .int 0])), (a11, .inr (2, [.ref (u12 0), .ref (u12 1)])), ((u12 0), .inr (1, [.int (1 : Int32), .long 0, .long 0, .int 0])), ((u12 1), .inl (cJ, 64, .inr (.inl (fun _ => 0)))), (a13, .inl (cO, 4, .inr (.inr (.inr (.inr (va_up (va_up (va_up (fun _ => none) (0 : Int32).toNatClampNeg (some a14)) (1 : Int32).toNatClampNeg (some a16)) (2 : Int32).toNatClampNeg (some a18))))))), (a14, .inr (4, [.ref (u15 0), .int (1 : Int32), .int 0, .int 0])), ((u15 0), .inl (cI, 100, .inl (fun _ => 0))), (a16, .inr (4, [.ref (u17 0), .int (1 : Int32), .int 0, .int 0])), ((u17 0), .inl (cI, 100, .inl (fun _ => 0))), (a18, .inr (4, [.ref (u19 0), .int (1 : Int32), .int 0, .int 0])), ((u19 0), .inl (cI, 100, .inl (fun _ => 0))), (a20, .inr (4, [.null, .int 0, .int 0, .int 0]))] H _ := hw
  refine lv_dup hx hb dX6_init_97 rfl ?_
  refine cl_n (wr := [(q_t, .inr (6, [.ref a1, .ref a3, .ref a5, .ref a7, .ref a9, .ref a11, .ref a13, .int 0, .int 0])), (a1, .inr (3, [.ref (u2 0), .ref (u2 1)])), ((u2 0), .inl (cI, 240, .inl (fun _ => 0))), ((u2 1), .inl (cI, 240, .inl (fun _ => 0))), (a3, .inr (0, [.ref (u4 0), .int 0])), ((u4 0), .inl (cI, 240, .inl (fun _ => 0))), (a5, .inr (5, [.ref (u6 0), .ref (u6 1), .ref (u6 2), .int 0, .int 0])), ((u6 0), .inl (cI, 240, .inl (fun _ => 0))), ((u6 1), .inl (cI, 240, .inl (fun _ => 0))), ((u6 2), .inl (cI, 241, .inl (fun _ => 0))), (a7, .inr (5, [.ref (u8 0), .ref (u8 1), .ref (u8 2), .int 0, .int 0])), ((u8 0), .inl (cI, 240, .inl (fun _ => 0))), ((u8 1), .inl (cI, 240, .inl (fun _ => 0))), ((u8 2), .inl (cI, 241, .inl (fun _ => 0))), (a9, .inr (1, [.int (1 : Int32), .long 0, .long 0, .int 0])), (a11, .inr (2, [.ref (u12 0), .ref (u12 1)])), ((u12 0), .inr (1, [.int (1 : Int32), .long 0, .long 0, .int 0])), ((u12 1), .inl (cJ, 64, .inr (.inl (fun _ => 0)))), (a13, .inl (cO, 4, .inr (.inr (.inr (.inr (va_up (va_up (va_up (fun _ => none) (0 : Int32).toNatClampNeg (some a14)) (1 : Int32).toNatClampNeg (some a16)) (2 : Int32).toNatClampNeg (some a18))))))), (a14, .inr (4, [.ref (u15 0), .int (1 : Int32), .int 0, .int 0])), ((u15 0), .inl (cI, 100, .inl (fun _ => 0))), (a16, .inr (4, [.ref (u17 0), .int (1 : Int32), .int 0, .int 0])), ((u17 0), .inl (cI, 100, .inl (fun _ => 0))), (a18, .inr (4, [.ref (u19 0), .int (1 : Int32), .int 0, .int 0])), ((u19 0), .inl (cI, 100, .inl (fun _ => 0)))]) (ws2 := fun u21 => [(q_t, .inr (6, [.ref a1, .ref a3, .ref a5, .ref a7, .ref a9, .ref a11, .ref a13, .int 0, .int 0])), (a1, .inr (3, [.ref (u2 0), .ref (u2 1)])), ((u2 0), .inl (cI, 240, .inl (fun _ => 0))), ((u2 1), .inl (cI, 240, .inl (fun _ => 0))), (a3, .inr (0, [.ref (u4 0), .int 0])), ((u4 0), .inl (cI, 240, .inl (fun _ => 0))), (a5, .inr (5, [.ref (u6 0), .ref (u6 1), .ref (u6 2), .int 0, .int 0])), ((u6 0), .inl (cI, 240, .inl (fun _ => 0))), ((u6 1), .inl (cI, 240, .inl (fun _ => 0))), ((u6 2), .inl (cI, 241, .inl (fun _ => 0))), (a7, .inr (5, [.ref (u8 0), .ref (u8 1), .ref (u8 2), .int 0, .int 0])), ((u8 0), .inl (cI, 240, .inl (fun _ => 0))), ((u8 1), .inl (cI, 240, .inl (fun _ => 0))), ((u8 2), .inl (cI, 241, .inl (fun _ => 0))), (a9, .inr (1, [.int (1 : Int32), .long 0, .long 0, .int 0])), (a11, .inr (2, [.ref (u12 0), .ref (u12 1)])), ((u12 0), .inr (1, [.int (1 : Int32), .long 0, .long 0, .int 0])), ((u12 1), .inl (cJ, 64, .inr (.inl (fun _ => 0)))), (a13, .inl (cO, 4, .inr (.inr (.inr (.inr (va_up (va_up (va_up (fun _ => none) (0 : Int32).toNatClampNeg (some a14)) (1 : Int32).toNatClampNeg (some a16)) (2 : Int32).toNatClampNeg (some a18))))))), (a14, .inr (4, [.ref (u15 0), .int (1 : Int32), .int 0, .int 0])), ((u15 0), .inl (cI, 100, .inl (fun _ => 0))), (a16, .inr (4, [.ref (u17 0), .int (1 : Int32), .int 0, .int 0])), ((u17 0), .inl (cI, 100, .inl (fun _ => 0))), (a18, .inr (4, [.ref (u19 0), .int (1 : Int32), .int 0, .int 0])), ((u19 0), .inl (cI, 100, .inl (fun _ => 0))), (a20, .inr (4, [.ref (u21 0), .int (1 : Int32), .int 0, .int 0])), ((u21 0), .inl (cI, 100, .inl (fun _ => 0)))]) hA hw [25] [0, 1, 2, 3, 4, 5, 6, 7, 8, 9, 10, 11, 12, 13, 14, 15, 16, 17, 18, 19, 20, 21, 22, 23, 24] [0, 1, 2, 3, 4, 5, 6, 7, 8, 9, 10, 11, 12, 13, 14, 15, 16, 17, 18, 19, 20, 21, 22, 23, 24, 25, 26] rfl rfl rfl (by decide) (fun _ => rfl) rfl (va_runIN (As := []) (rest := [.ref a20, .int (3 : Int32), .ref a13]) S (n_X4_init l D cI cZ cJ cO _ a20) ⟨va_cnB 0 hts gX6_init_X4_init_n53 rfl rfl rfl (hN.1 _ nw_X6_53) (hts (.initialized RX4) (by decide +kernel)) (by decide +kernel) ⟨Nat.le_of_ble_eq_true rfl, Nat.le_of_ble_eq_true rfl⟩, rfl, hts (.instanceMethod yX4_init) (by decide +kernel)⟩ (pre_S (As := [.ref a20]) hK hN hw [25] rfl rfl) rfl rfl hl.1 rfl (lv_room (Nat.le_of_ble_eq_true rfl)) dX6_init_98 ⟨Nat.le_of_ble_eq_true rfl, Nat.le_of_ble_eq_true rfl⟩) (fun u21 H locs hw => ?_)
  refine W.widen (k := 26) (n := 2670) (by decide) (by decide) ?_
  have hw : Wd D A s.heap [(q_t, .inr (6, [.ref a1, .ref a3, .ref a5, .ref a7, .ref a9, .ref a11, .ref a13, .int 0, .int 0])), (a1, .inr (3, [.ref (u2 0), .ref (u2 1)])), ((u2 0), .inl (cI, 240, .inl (fun _ => 0))), ((u2 1), .inl (cI, 240, .inl (fun _ => 0))), (a3, .inr (0, [.ref (u4 0), .int 0])), ((u4 0), .inl (cI, 240, .inl (fun _ => 0))), (a5, .inr (5, [.ref (u6 0), .ref (u6 1), .ref (u6 2), .int 0, .int 0])), ((u6 0), .inl (cI, 240, .inl (fun _ => 0))), ((u6 1), .inl (cI, 240, .inl (fun _ => 0))), ((u6 2), .inl (cI, 241, .inl (fun _ => 0))), (a7, .inr (5, [.ref (u8 0), .ref (u8 1), .ref (u8 2), .int 0, .int 0])), ((u8 0), .inl (cI, 240, .inl (fun _ => 0))), ((u8 1), .inl (cI, 240, .inl (fun _ => 0))), ((u8 2), .inl (cI, 241, .inl (fun _ => 0))), (a9, .inr (1, [.int (1 : Int32), .long 0, .long 0, .int 0])), (a11, .inr (2, [.ref (u12 0), .ref (u12 1)])), ((u12 0), .inr (1, [.int (1 : Int32), .long 0, .long 0, .int 0])), ((u12 1), .inl (cJ, 64, .inr (.inl (fun _ => 0)))), (a13, .inl (cO, 4, .inr (.inr (.inr (.inr (va_up (va_up (va_up (fun _ => none) (0 : Int32).toNatClampNeg (some a14)) (1 : Int32).toNatClampNeg (some a16)) (2 : Int32).toNatClampNeg (some a18))))))), (a14, .inr (4, [.ref (u15 0), .int (1 : Int32), .int 0, .int 0])), ((u15 0), .inl (cI, 100, .inl (fun _ => 0))), (a16, .inr (4, [.ref (u17 0), .int (1 : Int32), .int 0, .int 0])), ((u17 0), .inl (cI, 100, .inl (fun _ => 0))), (a18, .inr (4, [.ref (u19 0), .int (1 : Int32), .int 0, .int 0])), ((u19 0), .inl (cI, 100, .inl (fun _ => 0))), (a20, .inr (4, [.ref (u21 0), .int (1 : Int32), .int 0, .int 0])), ((u21 0), .inl (cI, 100, .inl (fun _ => 0)))] H _ := hw
  refine va_astq (r := (RX4, TX4, 4)) hx hb hK hw.1 hw.2.1 hw.2.2 18 3 25 4 rfl rfl rfl rfl (show vp_in (3 : Int32) 4 by unfold vp_in; decide) dX6_init_101 (fun H locs h1 h2 h3 => ?_)
  have hw : Wd D A s.heap [(q_t, .inr (6, [.ref a1, .ref a3, .ref a5, .ref a7, .ref a9, .ref a11, .ref a13, .int 0, .int 0])), (a1, .inr (3, [.ref (u2 0), .ref (u2 1)])), ((u2 0), .inl (cI, 240, .inl (fun _ => 0))), ((u2 1), .inl (cI, 240, .inl (fun _ => 0))), (a3, .inr (0, [.ref (u4 0), .int 0])), ((u4 0), .inl (cI, 240, .inl (fun _ => 0))), (a5, .inr (5, [.ref (u6 0), .ref (u6 1), .ref (u6 2), .int 0, .int 0])), ((u6 0), .inl (cI, 240, .inl (fun _ => 0))), ((u6 1), .inl (cI, 240, .inl (fun _ => 0))), ((u6 2), .inl (cI, 241, .inl (fun _ => 0))), (a7, .inr (5, [.ref (u8 0), .ref (u8 1), .ref (u8 2), .int 0, .int 0])), ((u8 0), .inl (cI, 240, .inl (fun _ => 0))), ((u8 1), .inl (cI, 240, .inl (fun _ => 0))), ((u8 2), .inl (cI, 241, .inl (fun _ => 0))), (a9, .inr (1, [.int (1 : Int32), .long 0, .long 0, .int 0])), (a11, .inr (2, [.ref (u12 0), .ref (u12 1)])), ((u12 0), .inr (1, [.int (1 : Int32), .long 0, .long 0, .int 0])), ((u12 1), .inl (cJ, 64, .inr (.inl (fun _ => 0)))), (a13, .inl (cO, 4, .inr (.inr (.inr (.inr (va_up (va_up (va_up (va_up (fun _ => none) (0 : Int32).toNatClampNeg (some a14)) (1 : Int32).toNatClampNeg (some a16)) (2 : Int32).toNatClampNeg (some a18)) (3 : Int32).toNatClampNeg (some a20))))))), (a14, .inr (4, [.ref (u15 0), .int (1 : Int32), .int 0, .int 0])), ((u15 0), .inl (cI, 100, .inl (fun _ => 0))), (a16, .inr (4, [.ref (u17 0), .int (1 : Int32), .int 0, .int 0])), ((u17 0), .inl (cI, 100, .inl (fun _ => 0))), (a18, .inr (4, [.ref (u19 0), .int (1 : Int32), .int 0, .int 0])), ((u19 0), .inl (cI, 100, .inl (fun _ => 0))), (a20, .inr (4, [.ref (u21 0), .int (1 : Int32), .int 0, .int 0])), ((u21 0), .inl (cI, 100, .inl (fun _ => 0)))] H locs := ⟨h1, h2, h3⟩
  refine lv_iinc (v := (4 : Int32)) (lv' := [(1, .int (4 : Int32)), (0, .ref q_t)]) hx hb dX6_init_102 hl (k := 0) rfl (by decide) (by decide) rfl (fun ls hl => ?_)
  refine lv_goto (tgt := 80) hx hb dX6_init_105 (by decide) ?_
  refine lv_iload_n hx hb dX6_init_80 rfl (lv_at hl 0 rfl) ?_
  refine lv_aload_n hx hb dX6_init_81 rfl (lv_at hl 1 rfl) ?_
  refine g_get (ci := 6) (C := RX6) (T := TX6) (N := 9) S hinX6 hK hw 0 6 k49 dX6_init_82 rfl rfl (by decide) rfl ?_
  refine va_alen hx hb hK hw.1 18 3 rfl rfl (v := (4 : Int32)) rfl dX6_init_85 ?_
  refine lv_icmp_ge (tgt := 108) hx hb dX6_init_86 (by decide) (fun _ => ?_) (fun c9 => absurd (by decide) c9)
  exact rt_n (fun k => ([a1, (u2 0), (u2 1), a3, (u4 0), a5, (u6 0), (u6 1), (u6 2), a7, (u8 0), (u8 1), (u8 2), a9, a11, (u12 0), (u12 1), a13, a14, (u15 0), a16, (u17 0), a18, (u19 0), a20, (u21 0)] : List Nat).getD k 0) [0, 1, 2, 3, 4, 5, 6, 7, 8, 9, 10, 11, 12, 13, 14, 15, 16, 17, 18, 19, 20, 21, 22, 23, 24, 25, 26] S hr hlk hw rfl rfl dX6_init_108

set_option maxHeartbeats 4000000 in
set_option maxRecDepth 100000 in
theorem n_X7_init (l : Launch) (D : va_G) (cI cZ cJ cO : ClassId) (sz q_t : Nat) : Met l yX7_init wsX7_init ({ frames := 1, cells := 17, slots := 2797, locals := 20 }) (PreC D (TY cI cZ cJ cO) [.ref q_t] [(q_t, .inr (7, [.null, .null, .int 0, .null, .null, .int 0, .null, .null, .int 0, .null, .null, .null, .int 0, .null, .null, .null, .null, .null, .null, .null, .null, .int 0]))] sz) (QcN D (fun u : Nat → Nat => [(q_t, .inr (7, [.ref (u 0), .ref (u 1), .int 0, .ref (u 2), .ref (u 3), .int 0, .ref (u 4), .ref (u 5), .int 0, .ref (u 6), .ref (u 7), .ref (u 8), .int (1 : Int32), .ref (u 9), .ref (u 10), .ref (u 11), .ref (u 12), .ref (u 13), .ref (u 14), .ref (u 15), .ref (u 16), .int 0])), ((u 0), .inl (cZ, 240, .inl (fun _ => 0))), ((u 1), .inl (cZ, 240, .inl (fun _ => 0))), ((u 2), .inl (cZ, 240, .inl (fun _ => 0))), ((u 3), .inl (cI, 240, .inl (fun _ => 0))), ((u 4), .inl (cI, 241, .inl (fun _ => 0))), ((u 5), .inl (cI, 241, .inl (fun _ => 0))), ((u 6), .inl (cI, 241, .inl (fun _ => 0))), ((u 7), .inl (cI, 241, .inl (fun _ => 0))), ((u 8), .inl (cI, 241, .inl (fun _ => 0))), ((u 9), .inl (cZ, 40, .inl (fun _ => 0))), ((u 10), .inl (cZ, 40, .inl (fun _ => 0))), ((u 11), .inl (cZ, 40, .inl (fun _ => 0))), ((u 12), .inl (cZ, 4, .inl (fun _ => 0))), ((u 13), .inl (cI, 4, .inl (fun _ => 0))), ((u 14), .inl (cI, 4, .inl (fun _ => 0))), ((u 15), .inl (cI, 400, .inl (fun _ => 0))), ((u 16), .inl (cI, 100, .inl (fun _ => 0)))]) (va_A [(q_t, .inr (7, [.null, .null, .int 0, .null, .null, .int 0, .null, .null, .int 0, .null, .null, .null, .int 0, .null, .null, .null, .null, .null, .null, .null, .null, .int 0]))] sz)) 17 2797 (va_A [(q_t, .inr (7, [.null, .null, .int 0, .null, .null, .int 0, .null, .null, .int 0, .null, .null, .null, .int 0, .null, .null, .null, .null, .null, .null, .null, .null, .int 0]))] sz) := by
  refine ctr (cc := cX7_init) (maxL := 1) (ret := none) (by decide) rfl (Nat.le_of_ble_eq_true rfl) ?_
  intro p e s m below meth c S hr hlk hnm hK hN hsz hA hw ls hl
  generalize va_A [(q_t, .inr (7, [.null, .null, .int 0, .null, .null, .int 0, .null, .null, .int 0, .null, .null, .null, .int 0, .null, .null, .null, .null, .null, .null, .null, .null, .int 0]))] sz = A at hA hw ⊢
  have S : CallFix p m c cX7_init 1 s ([.ref q_t] : List Value).toArray wsX7_init RX7 := S
  have hx := S.1
  have hb := S.2.1
  have hts := S.2.2.2.2
  have hl : lv_has ls 1 [(0, .ref q_t)] := hl
  have hinX7 : ∀ w ∈ u_ws RX7 TX7 22, w ∈ wsX7_init := by decide +kernel
  have k7 : Cond.fieldLink RX7 7 "BallBoxesModel" "boxes" "[Z" ∈ wsX7_init := by decide +kernel
  have k13 : Cond.fieldLink RX7 13 "BallBoxesModel" "next" "[Z" ∈ wsX7_init := by decide +kernel
  have k16 : Cond.fieldLink RX7 16 "BallBoxesModel" "left" "[Z" ∈ wsX7_init := by decide +kernel
  have k19 : Cond.fieldLink RX7 19 "BallBoxesModel" "pairs" "[I" ∈ wsX7_init := by decide +kernel
  have k23 : Cond.fieldLink RX7 23 "BallBoxesModel" "lengths" "[I" ∈ wsX7_init := by decide +kernel
  have k26 : Cond.fieldLink RX7 26 "BallBoxesModel" "riggings" "[I" ∈ wsX7_init := by decide +kernel
  have k29 : Cond.fieldLink RX7 29 "BallBoxesModel" "toldLength" "[I" ∈ wsX7_init := by decide +kernel
  have k32 : Cond.fieldLink RX7 32 "BallBoxesModel" "toldRigging" "[I" ∈ wsX7_init := by decide +kernel
  have k35 : Cond.fieldLink RX7 35 "BallBoxesModel" "toldRoom" "[I" ∈ wsX7_init := by decide +kernel
  have k38 : Cond.fieldLink RX7 38 "BallBoxesModel" "ringN" "I" ∈ wsX7_init := by decide +kernel
  have k42 : Cond.fieldLink RX7 42 "BallBoxesModel" "ring" "[Z" ∈ wsX7_init := by decide +kernel
  have k45 : Cond.fieldLink RX7 45 "BallBoxesModel" "was" "[Z" ∈ wsX7_init := by decide +kernel
  have k48 : Cond.fieldLink RX7 48 "BallBoxesModel" "saved" "[Z" ∈ wsX7_init := by decide +kernel
  have k51 : Cond.fieldLink RX7 51 "BallBoxesModel" "isThere" "[Z" ∈ wsX7_init := by decide +kernel
  have k54 : Cond.fieldLink RX7 54 "BallBoxesModel" "forms" "[I" ∈ wsX7_init := by decide +kernel
  have k57 : Cond.fieldLink RX7 57 "BallBoxesModel" "sizes" "[I" ∈ wsX7_init := by decide +kernel
  have k60 : Cond.fieldLink RX7 60 "BallBoxesModel" "items" "[I" ∈ wsX7_init := by decide +kernel
  have k63 : Cond.fieldLink RX7 63 "BallBoxesModel" "moved" "[I" ∈ wsX7_init := by decide +kernel
  refine lv_aload_n hx hb dX7_init_0 rfl (lv_at hl 0 rfl) ?_
  refine g_obj S hl.1 (by decide +kernel) (by decide +kernel) (by decide +kernel) dX7_init_1 (Nat.le_of_ble_eq_true rfl) (Nat.le_of_ble_eq_true rfl) ?_
  refine lv_aload_n hx hb dX7_init_4 rfl (lv_at hl 0 rfl) ?_
  refine lv_sipush (v := (240 : Int32)) hx hb dX7_init_5 (by decide) ?_
  refine g_newa (cA := cZ) (ty := .boolean) (N' := 240) (a0 := (240, .inl (fun _ => 0))) S rfl (by decide +kernel) hK hw hA 1 rfl (fun _ _ h1 h2 => Option.some.inj (h1.symm.trans h2)) (fun _ => rfl) (by decide) rfl (by decide) (Nat.le_of_ble_eq_true rfl) (Nat.le_of_ble_eq_true rfl) dX7_init_8 (fun a1 H hw => ?_)
  refine W.widen (k := 1) (n := 240) (by decide) (by decide) ?_
  have hw : Wd D A s.heap [(q_t, .inr (7, [.null, .null, .int 0, .null, .null, .int 0, .null, .null, .int 0, .null, .null, .null, .int 0, .null, .null, .null, .null, .null, .null, .null, .null, .int 0])), (a1, .inl (cZ, 240, .inl (fun _ => 0)))] H _ := hw
  refine g_putF (ci := 7) (C := RX7) (T := TX7) (N := 22) (ws' := [(q_t, .inr (7, [.ref a1, .null, .int 0, .null, .null, .int 0, .null, .null, .int 0, .null, .null, .null, .int 0, .null, .null, .null, .null, .null, .null, .null, .null, .int 0])), (a1, .inl (cZ, 240, .inl (fun _ => 0)))]) S hinX7 tyX7 tyX7_ok nmX7 hK hw hnm 0 0 k7 dX7_init_10 rfl rfl (by decide) rfl rfl rfl rfl (Nat.le_of_ble_eq_true rfl) rfl (fun H locs hw => ?_)
  refine lv_aload_n hx hb dX7_init_13 rfl (lv_at hl 0 rfl) ?_
  refine lv_sipush (v := (240 : Int32)) hx hb dX7_init_14 (by decide) ?_
  refine g_newa (cA := cZ) (ty := .boolean) (N' := 240) (a0 := (240, .inl (fun _ => 0))) S rfl (by decide +kernel) hK hw hA 1 rfl (fun _ _ h1 h2 => Option.some.inj (h1.symm.trans h2)) (fun _ => rfl) (by decide) rfl (by decide) (Nat.le_of_ble_eq_true rfl) (Nat.le_of_ble_eq_true rfl) dX7_init_17 (fun a2 H hw => ?_)
  refine W.widen (k := 2) (n := 480) (by decide) (by decide) ?_
  have hw : Wd D A s.heap [(q_t, .inr (7, [.ref a1, .null, .int 0, .null, .null, .int 0, .null, .null, .int 0, .null, .null, .null, .int 0, .null, .null, .null, .null, .null, .null, .null, .null, .int 0])), (a1, .inl (cZ, 240, .inl (fun _ => 0))), (a2, .inl (cZ, 240, .inl (fun _ => 0)))] H _ := hw
  refine g_putF (ci := 7) (C := RX7) (T := TX7) (N := 22) (ws' := [(q_t, .inr (7, [.ref a1, .ref a2, .int 0, .null, .null, .int 0, .null, .null, .int 0, .null, .null, .null, .int 0, .null, .null, .null, .null, .null, .null, .null, .null, .int 0])), (a1, .inl (cZ, 240, .inl (fun _ => 0))), (a2, .inl (cZ, 240, .inl (fun _ => 0)))]) S hinX7 tyX7 tyX7_ok nmX7 hK hw hnm 0 1 k13 dX7_init_19 rfl rfl (by decide) rfl rfl rfl rfl (Nat.le_of_ble_eq_true rfl) rfl (fun H locs hw => ?_)
  refine lv_aload_n hx hb dX7_init_22 rfl (lv_at hl 0 rfl) ?_
  refine lv_sipush (v := (240 : Int32)) hx hb dX7_init_23 (by decide) ?_
  refine g_newa (cA := cZ) (ty := .boolean) (N' := 240) (a0 := (240, .inl (fun _ => 0))) S rfl (by decide +kernel) hK hw hA 1 rfl (fun _ _ h1 h2 => Option.some.inj (h1.symm.trans h2)) (fun _ => rfl) (by decide) rfl (by decide) (Nat.le_of_ble_eq_true rfl) (Nat.le_of_ble_eq_true rfl) dX7_init_26 (fun a3 H hw => ?_)
  refine W.widen (k := 3) (n := 720) (by decide) (by decide) ?_
  have hw : Wd D A s.heap [(q_t, .inr (7, [.ref a1, .ref a2, .int 0, .null, .null, .int 0, .null, .null, .int 0, .null, .null, .null, .int 0, .null, .null, .null, .null, .null, .null, .null, .null, .int 0])), (a1, .inl (cZ, 240, .inl (fun _ => 0))), (a2, .inl (cZ, 240, .inl (fun _ => 0))), (a3, .inl (cZ, 240, .inl (fun _ => 0)))] H _ := hw
  refine g_putF (ci := 7) (C := RX7) (T := TX7) (N := 22) (ws' := [(q_t, .inr (7, [.ref a1, .ref a2, .int 0, .ref a3, .null, .int 0, .null, .null, .int 0, .null, .null, .null, .int 0, .null, .null, .null, .null, .null, .null, .null, .null, .int 0])), (a1, .inl (cZ, 240, .inl (fun _ => 0))), (a2, .inl (cZ, 240, .inl (fun _ => 0))), (a3, .inl (cZ, 240, .inl (fun _ => 0)))]) S hinX7 tyX7 tyX7_ok nmX7 hK hw hnm 0 3 k16 dX7_init_28 rfl rfl (by decide) rfl rfl rfl rfl (Nat.le_of_ble_eq_true rfl) rfl (fun H locs hw => ?_)
  refine lv_aload_n hx hb dX7_init_31 rfl (lv_at hl 0 rfl) ?_
  refine lv_sipush (v := (240 : Int32)) hx hb dX7_init_32 (by decide) ?_
  refine g_newa (cA := cI) (ty := .int) (N' := 240) (a0 := (240, .inl (fun _ => 0))) S rfl (by decide +kernel) hK hw hA 0 rfl (fun _ _ h1 h2 => Option.some.inj (h1.symm.trans h2)) (fun _ => rfl) (by decide) rfl (by decide) (Nat.le_of_ble_eq_true rfl) (Nat.le_of_ble_eq_true rfl) dX7_init_35 (fun a4 H hw => ?_)
  refine W.widen (k := 4) (n := 960) (by decide) (by decide) ?_
  have hw : Wd D A s.heap [(q_t, .inr (7, [.ref a1, .ref a2, .int 0, .ref a3, .null, .int 0, .null, .null, .int 0, .null, .null, .null, .int 0, .null, .null, .null, .null, .null, .null, .null, .null, .int 0])), (a1, .inl (cZ, 240, .inl (fun _ => 0))), (a2, .inl (cZ, 240, .inl (fun _ => 0))), (a3, .inl (cZ, 240, .inl (fun _ => 0))), (a4, .inl (cI, 240, .inl (fun _ => 0)))] H _ := hw
  refine g_putF (ci := 7) (C := RX7) (T := TX7) (N := 22) (ws' := [(q_t, .inr (7, [.ref a1, .ref a2, .int 0, .ref a3, .ref a4, .int 0, .null, .null, .int 0, .null, .null, .null, .int 0, .null, .null, .null, .null, .null, .null, .null, .null, .int 0])), (a1, .inl (cZ, 240, .inl (fun _ => 0))), (a2, .inl (cZ, 240, .inl (fun _ => 0))), (a3, .inl (cZ, 240, .inl (fun _ => 0))), (a4, .inl (cI, 240, .inl (fun _ => 0)))]) S hinX7 tyX7 tyX7_ok nmX7 hK hw hnm 0 4 k19 dX7_init_37 rfl rfl (by decide) rfl rfl rfl rfl (Nat.le_of_ble_eq_true rfl) rfl (fun H locs hw => ?_)
  refine lv_aload_n hx hb dX7_init_40 rfl (lv_at hl 0 rfl) ?_
  refine lv_sipush (v := (241 : Int32)) hx hb dX7_init_41 (by decide) ?_
  refine g_newa (cA := cI) (ty := .int) (N' := 241) (a0 := (241, .inl (fun _ => 0))) S rfl (by decide +kernel) hK hw hA 0 rfl (fun _ _ h1 h2 => Option.some.inj (h1.symm.trans h2)) (fun _ => rfl) (by decide) rfl (by decide) (Nat.le_of_ble_eq_true rfl) (Nat.le_of_ble_eq_true rfl) dX7_init_44 (fun a5 H hw => ?_)
  refine W.widen (k := 5) (n := 1201) (by decide) (by decide) ?_
  have hw : Wd D A s.heap [(q_t, .inr (7, [.ref a1, .ref a2, .int 0, .ref a3, .ref a4, .int 0, .null, .null, .int 0, .null, .null, .null, .int 0, .null, .null, .null, .null, .null, .null, .null, .null, .int 0])), (a1, .inl (cZ, 240, .inl (fun _ => 0))), (a2, .inl (cZ, 240, .inl (fun _ => 0))), (a3, .inl (cZ, 240, .inl (fun _ => 0))), (a4, .inl (cI, 240, .inl (fun _ => 0))), (a5, .inl (cI, 241, .inl (fun _ => 0)))] H _ := hw
  refine g_putF (ci := 7) (C := RX7) (T := TX7) (N := 22) (ws' := [(q_t, .inr (7, [.ref a1, .ref a2, .int 0, .ref a3, .ref a4, .int 0, .ref a5, .null, .int 0, .null, .null, .null, .int 0, .null, .null, .null, .null, .null, .null, .null, .null, .int 0])), (a1, .inl (cZ, 240, .inl (fun _ => 0))), (a2, .inl (cZ, 240, .inl (fun _ => 0))), (a3, .inl (cZ, 240, .inl (fun _ => 0))), (a4, .inl (cI, 240, .inl (fun _ => 0))), (a5, .inl (cI, 241, .inl (fun _ => 0)))]) S hinX7 tyX7 tyX7_ok nmX7 hK hw hnm 0 6 k23 dX7_init_46 rfl rfl (by decide) rfl rfl rfl rfl (Nat.le_of_ble_eq_true rfl) rfl (fun H locs hw => ?_)
  refine lv_aload_n hx hb dX7_init_49 rfl (lv_at hl 0 rfl) ?_
  refine lv_sipush (v := (241 : Int32)) hx hb dX7_init_50 (by decide) ?_
  refine g_newa (cA := cI) (ty := .int) (N' := 241) (a0 := (241, .inl (fun _ => 0))) S rfl (by decide +kernel) hK hw hA 0 rfl (fun _ _ h1 h2 => Option.some.inj (h1.symm.trans h2)) (fun _ => rfl) (by decide) rfl (by decide) (Nat.le_of_ble_eq_true rfl) (Nat.le_of_ble_eq_true rfl) dX7_init_53 (fun a6 H hw => ?_)
  refine W.widen (k := 6) (n := 1442) (by decide) (by decide) ?_
  have hw : Wd D A s.heap [(q_t, .inr (7, [.ref a1, .ref a2, .int 0, .ref a3, .ref a4, .int 0, .ref a5, .null, .int 0, .null, .null, .null, .int 0, .null, .null, .null, .null, .null, .null, .null, .null, .int 0])), (a1, .inl (cZ, 240, .inl (fun _ => 0))), (a2, .inl (cZ, 240, .inl (fun _ => 0))), (a3, .inl (cZ, 240, .inl (fun _ => 0))), (a4, .inl (cI, 240, .inl (fun _ => 0))), (a5, .inl (cI, 241, .inl (fun _ => 0))), (a6, .inl (cI, 241, .inl (fun _ => 0)))] H _ := hw
  refine g_putF (ci := 7) (C := RX7) (T := TX7) (N := 22) (ws' := [(q_t, .inr (7, [.ref a1, .ref a2, .int 0, .ref a3, .ref a4, .int 0, .ref a5, .ref a6, .int 0, .null, .null, .null, .int 0, .null, .null, .null, .null, .null, .null, .null, .null, .int 0])), (a1, .inl (cZ, 240, .inl (fun _ => 0))), (a2, .inl (cZ, 240, .inl (fun _ => 0))), (a3, .inl (cZ, 240, .inl (fun _ => 0))), (a4, .inl (cI, 240, .inl (fun _ => 0))), (a5, .inl (cI, 241, .inl (fun _ => 0))), (a6, .inl (cI, 241, .inl (fun _ => 0)))]) S hinX7 tyX7 tyX7_ok nmX7 hK hw hnm 0 7 k26 dX7_init_55 rfl rfl (by decide) rfl rfl rfl rfl (Nat.le_of_ble_eq_true rfl) rfl (fun H locs hw => ?_)
  refine lv_aload_n hx hb dX7_init_58 rfl (lv_at hl 0 rfl) ?_
  refine lv_sipush (v := (241 : Int32)) hx hb dX7_init_59 (by decide) ?_
  refine g_newa (cA := cI) (ty := .int) (N' := 241) (a0 := (241, .inl (fun _ => 0))) S rfl (by decide +kernel) hK hw hA 0 rfl (fun _ _ h1 h2 => Option.some.inj (h1.symm.trans h2)) (fun _ => rfl) (by decide) rfl (by decide) (Nat.le_of_ble_eq_true rfl) (Nat.le_of_ble_eq_true rfl) dX7_init_62 (fun a7 H hw => ?_)
  refine W.widen (k := 7) (n := 1683) (by decide) (by decide) ?_
  have hw : Wd D A s.heap [(q_t, .inr (7, [.ref a1, .ref a2, .int 0, .ref a3, .ref a4, .int 0, .ref a5, .ref a6, .int 0, .null, .null, .null, .int 0, .null, .null, .null, .null, .null, .null, .null, .null, .int 0])), (a1, .inl (cZ, 240, .inl (fun _ => 0))), (a2, .inl (cZ, 240, .inl (fun _ => 0))), (a3, .inl (cZ, 240, .inl (fun _ => 0))), (a4, .inl (cI, 240, .inl (fun _ => 0))), (a5, .inl (cI, 241, .inl (fun _ => 0))), (a6, .inl (cI, 241, .inl (fun _ => 0))), (a7, .inl (cI, 241, .inl (fun _ => 0)))] H _ := hw
  refine g_putF (ci := 7) (C := RX7) (T := TX7) (N := 22) (ws' := [(q_t, .inr (7, [.ref a1, .ref a2, .int 0, .ref a3, .ref a4, .int 0, .ref a5, .ref a6, .int 0, .ref a7, .null, .null, .int 0, .null, .null, .null, .null, .null, .null, .null, .null, .int 0])), (a1, .inl (cZ, 240, .inl (fun _ => 0))), (a2, .inl (cZ, 240, .inl (fun _ => 0))), (a3, .inl (cZ, 240, .inl (fun _ => 0))), (a4, .inl (cI, 240, .inl (fun _ => 0))), (a5, .inl (cI, 241, .inl (fun _ => 0))), (a6, .inl (cI, 241, .inl (fun _ => 0))), (a7, .inl (cI, 241, .inl (fun _ => 0)))]) S hinX7 tyX7 tyX7_ok nmX7 hK hw hnm 0 9 k29 dX7_init_64 rfl rfl (by decide) rfl rfl rfl rfl (Nat.le_of_ble_eq_true rfl) rfl (fun H locs hw => ?_)
  refine lv_aload_n hx hb dX7_init_67 rfl (lv_at hl 0 rfl) ?_
  refine lv_sipush (v := (241 : Int32)) hx hb dX7_init_68 (by decide) ?_
  refine g_newa (cA := cI) (ty := .int) (N' := 241) (a0 := (241, .inl (fun _ => 0))) S rfl (by decide +kernel) hK hw hA 0 rfl (fun _ _ h1 h2 => Option.some.inj (h1.symm.trans h2)) (fun _ => rfl) (by decide) rfl (by decide) (Nat.le_of_ble_eq_true rfl) (Nat.le_of_ble_eq_true rfl) dX7_init_71 (fun a8 H hw => ?_)
  refine W.widen (k := 8) (n := 1924) (by decide) (by decide) ?_
  have hw : Wd D A s.heap [(q_t, .inr (7, [.ref a1, .ref a2, .int 0, .ref a3, .ref a4, .int 0, .ref a5, .ref a6, .int 0, .ref a7, .null, .null, .int 0, .null, .null, .null, .null, .null, .null, .null, .null, .int 0])), (a1, .inl (cZ, 240, .inl (fun _ => 0))), (a2, .inl (cZ, 240, .inl (fun _ => 0))), (a3, .inl (cZ, 240, .inl (fun _ => 0))), (a4, .inl (cI, 240, .inl (fun _ => 0))), (a5, .inl (cI, 241, .inl (fun _ => 0))), (a6, .inl (cI, 241, .inl (fun _ => 0))), (a7, .inl (cI, 241, .inl (fun _ => 0))), (a8, .inl (cI, 241, .inl (fun _ => 0)))] H _ := hw
  refine g_putF (ci := 7) (C := RX7) (T := TX7) (N := 22) (ws' := [(q_t, .inr (7, [.ref a1, .ref a2, .int 0, .ref a3, .ref a4, .int 0, .ref a5, .ref a6, .int 0, .ref a7, .ref a8, .null, .int 0, .null, .null, .null, .null, .null, .null, .null, .null, .int 0])), (a1, .inl (cZ, 240, .inl (fun _ => 0))), (a2, .inl (cZ, 240, .inl (fun _ => 0))), (a3, .inl (cZ, 240, .inl (fun _ => 0))), (a4, .inl (cI, 240, .inl (fun _ => 0))), (a5, .inl (cI, 241, .inl (fun _ => 0))), (a6, .inl (cI, 241, .inl (fun _ => 0))), (a7, .inl (cI, 241, .inl (fun _ => 0))), (a8, .inl (cI, 241, .inl (fun _ => 0)))]) S hinX7 tyX7 tyX7_ok nmX7 hK hw hnm 0 10 k32 dX7_init_73 rfl rfl (by decide) rfl rfl rfl rfl (Nat.le_of_ble_eq_true rfl) rfl (fun H locs hw => ?_)
  refine lv_aload_n hx hb dX7_init_76 rfl (lv_at hl 0 rfl) ?_
  refine lv_sipush (v := (241 : Int32)) hx hb dX7_init_77 (by decide) ?_
  refine g_newa (cA := cI) (ty := .int) (N' := 241) (a0 := (241, .inl (fun _ => 0))) S rfl (by decide +kernel) hK hw hA 0 rfl (fun _ _ h1 h2 => Option.some.inj (h1.symm.trans h2)) (fun _ => rfl) (by decide) rfl (by decide) (Nat.le_of_ble_eq_true rfl) (Nat.le_of_ble_eq_true rfl) dX7_init_80 (fun a9 H hw => ?_)
  refine W.widen (k := 9) (n := 2165) (by decide) (by decide) ?_
  have hw : Wd D A s.heap [(q_t, .inr (7, [.ref a1, .ref a2, .int 0, .ref a3, .ref a4, .int 0, .ref a5, .ref a6, .int 0, .ref a7, .ref a8, .null, .int 0, .null, .null, .null, .null, .null, .null, .null, .null, .int 0])), (a1, .inl (cZ, 240, .inl (fun _ => 0))), (a2, .inl (cZ, 240, .inl (fun _ => 0))), (a3, .inl (cZ, 240, .inl (fun _ => 0))), (a4, .inl (cI, 240, .inl (fun _ => 0))), (a5, .inl (cI, 241, .inl (fun _ => 0))), (a6, .inl (cI, 241, .inl (fun _ => 0))), (a7, .inl (cI, 241, .inl (fun _ => 0))), (a8, .inl (cI, 241, .inl (fun _ => 0))), (a9, .inl (cI, 241, .inl (fun _ => 0)))] H _ := hw
  refine g_putF (ci := 7) (C := RX7) (T := TX7) (N := 22) (ws' := [(q_t, .inr (7, [.ref a1, .ref a2, .int 0, .ref a3, .ref a4, .int 0, .ref a5, .ref a6, .int 0, .ref a7, .ref a8, .ref a9, .int 0, .null, .null, .null, .null, .null, .null, .null, .null, .int 0])), (a1, .inl (cZ, 240, .inl (fun _ => 0))), (a2, .inl (cZ, 240, .inl (fun _ => 0))), (a3, .inl (cZ, 240, .inl (fun _ => 0))), (a4, .inl (cI, 240, .inl (fun _ => 0))), (a5, .inl (cI, 241, .inl (fun _ => 0))), (a6, .inl (cI, 241, .inl (fun _ => 0))), (a7, .inl (cI, 241, .inl (fun _ => 0))), (a8, .inl (cI, 241, .inl (fun _ => 0))), (a9, .inl (cI, 241, .inl (fun _ => 0)))]) S hinX7 tyX7 tyX7_ok nmX7 hK hw hnm 0 11 k35 dX7_init_82 rfl rfl (by decide) rfl rfl rfl rfl (Nat.le_of_ble_eq_true rfl) rfl (fun H locs hw => ?_)
  refine lv_aload_n hx hb dX7_init_85 rfl (lv_at hl 0 rfl) ?_
  refine lv_iconst (v := (1 : Int32)) hx hb dX7_init_86 (by decide) ?_
  refine g_put (ci := 7) (C := RX7) (T := TX7) (N := 22) (ws' := [(q_t, .inr (7, [.ref a1, .ref a2, .int 0, .ref a3, .ref a4, .int 0, .ref a5, .ref a6, .int 0, .ref a7, .ref a8, .ref a9, .int (1 : Int32), .null, .null, .null, .null, .null, .null, .null, .null, .int 0])), (a1, .inl (cZ, 240, .inl (fun _ => 0))), (a2, .inl (cZ, 240, .inl (fun _ => 0))), (a3, .inl (cZ, 240, .inl (fun _ => 0))), (a4, .inl (cI, 240, .inl (fun _ => 0))), (a5, .inl (cI, 241, .inl (fun _ => 0))), (a6, .inl (cI, 241, .inl (fun _ => 0))), (a7, .inl (cI, 241, .inl (fun _ => 0))), (a8, .inl (cI, 241, .inl (fun _ => 0))), (a9, .inl (cI, 241, .inl (fun _ => 0)))]) S hinX7 tyX7 tyX7_ok nmX7 hK hw 0 12 k38 dX7_init_87 rfl rfl (by decide) rfl rfl rfl (Nat.le_of_ble_eq_true rfl) rfl (fun H locs hw => ?_)
  refine lv_aload_n hx hb dX7_init_90 rfl (lv_at hl 0 rfl) ?_
  refine lv_bipush (v := (40 : Int32)) hx hb dX7_init_91 (by decide) ?_
  refine g_newa (cA := cZ) (ty := .boolean) (N' := 40) (a0 := (40, .inl (fun _ => 0))) S rfl (by decide +kernel) hK hw hA 1 rfl (fun _ _ h1 h2 => Option.some.inj (h1.symm.trans h2)) (fun _ => rfl) (by decide) rfl (by decide) (Nat.le_of_ble_eq_true rfl) (Nat.le_of_ble_eq_true rfl) dX7_init_93 (fun a10 H hw => ?_)
  refine W.widen (k := 10) (n := 2205) (by decide) (by decide) ?_
  have hw : Wd D A s.heap [(q_t, .inr (7, [.ref a1, .ref a2, .int 0, .ref a3, .ref a4, .int 0, .ref a5, .ref a6, .int 0, .ref a7, .ref a8, .ref a9, .int (1 : Int32), .null, .null, .null, .null, .null, .null, .null, .null, .int 0])), (a1, .inl (cZ, 240, .inl (fun _ => 0))), (a2, .inl (cZ, 240, .inl (fun _ => 0))), (a3, .inl (cZ, 240, .inl (fun _ => 0))), (a4, .inl (cI, 240, .inl (fun _ => 0))), (a5, .inl (cI, 241, .inl (fun _ => 0))), (a6, .inl (cI, 241, .inl (fun _ => 0))), (a7, .inl (cI, 241, .inl (fun _ => 0))), (a8, .inl (cI, 241, .inl (fun _ => 0))), (a9, .inl (cI, 241, .inl (fun _ => 0))), (a10, .inl (cZ, 40, .inl (fun _ => 0)))] H _ := hw
  refine g_putF (ci := 7) (C := RX7) (T := TX7) (N := 22) (ws' := [(q_t, .inr (7, [.ref a1, .ref a2, .int 0, .ref a3, .ref a4, .int 0, .ref a5, .ref a6, .int 0, .ref a7, .ref a8, .ref a9, .int (1 : Int32), .ref a10, .null, .null, .null, .null, .null, .null, .null, .int 0])), (a1, .inl (cZ, 240, .inl (fun _ => 0))), (a2, .inl (cZ, 240, .inl (fun _ => 0))), (a3, .inl (cZ, 240, .inl (fun _ => 0))), (a4, .inl (cI, 240, .inl (fun _ => 0))), (a5, .inl (cI, 241, .inl (fun _ => 0))), (a6, .inl (cI, 241, .inl (fun _ => 0))), (a7, .inl (cI, 241, .inl (fun _ => 0))), (a8, .inl (cI, 241, .inl (fun _ => 0))), (a9, .inl (cI, 241, .inl (fun _ => 0))), (a10, .inl (cZ, 40, .inl (fun _ => 0)))]) S hinX7 tyX7 tyX7_ok nmX7 hK hw hnm 0 13 k42 dX7_init_95 rfl rfl (by decide) rfl rfl rfl rfl (Nat.le_of_ble_eq_true rfl) rfl (fun H locs hw => ?_)
  refine lv_aload_n hx hb dX7_init_98 rfl (lv_at hl 0 rfl) ?_
  refine lv_bipush (v := (40 : Int32)) hx hb dX7_init_99 (by decide) ?_
  refine g_newa (cA := cZ) (ty := .boolean) (N' := 40) (a0 := (40, .inl (fun _ => 0))) S rfl (by decide +kernel) hK hw hA 1 rfl (fun _ _ h1 h2 => Option.some.inj (h1.symm.trans h2)) (fun _ => rfl) (by decide) rfl (by decide) (Nat.le_of_ble_eq_true rfl) (Nat.le_of_ble_eq_true rfl) dX7_init_101 (fun a11 H hw => ?_)
  refine W.widen (k := 11) (n := 2245) (by decide) (by decide) ?_
  have hw : Wd D A s.heap [(q_t, .inr (7, [.ref a1, .ref a2, .int 0, .ref a3, .ref a4, .int 0, .ref a5, .ref a6, .int 0, .ref a7, .ref a8, .ref a9, .int (1 : Int32), .ref a10, .null, .null, .null, .null, .null, .null, .null, .int 0])), (a1, .inl (cZ, 240, .inl (fun _ => 0))), (a2, .inl (cZ, 240, .inl (fun _ => 0))), (a3, .inl (cZ, 240, .inl (fun _ => 0))), (a4, .inl (cI, 240, .inl (fun _ => 0))), (a5, .inl (cI, 241, .inl (fun _ => 0))), (a6, .inl (cI, 241, .inl (fun _ => 0))), (a7, .inl (cI, 241, .inl (fun _ => 0))), (a8, .inl (cI, 241, .inl (fun _ => 0))), (a9, .inl (cI, 241, .inl (fun _ => 0))), (a10, .inl (cZ, 40, .inl (fun _ => 0))), (a11, .inl (cZ, 40, .inl (fun _ => 0)))] H _ := hw
  refine g_putF (ci := 7) (C := RX7) (T := TX7) (N := 22) (ws' := [(q_t, .inr (7, [.ref a1, .ref a2, .int 0, .ref a3, .ref a4, .int 0, .ref a5, .ref a6, .int 0, .ref a7, .ref a8, .ref a9, .int (1 : Int32), .ref a10, .ref a11, .null, .null, .null, .null, .null, .null, .int 0])), (a1, .inl (cZ, 240, .inl (fun _ => 0))), (a2, .inl (cZ, 240, .inl (fun _ => 0))), (a3, .inl (cZ, 240, .inl (fun _ => 0))), (a4, .inl (cI, 240, .inl (fun _ => 0))), (a5, .inl (cI, 241, .inl (fun _ => 0))), (a6, .inl (cI, 241, .inl (fun _ => 0))), (a7, .inl (cI, 241, .inl (fun _ => 0))), (a8, .inl (cI, 241, .inl (fun _ => 0))), (a9, .inl (cI, 241, .inl (fun _ => 0))), (a10, .inl (cZ, 40, .inl (fun _ => 0))), (a11, .inl (cZ, 40, .inl (fun _ => 0)))]) S hinX7 tyX7 tyX7_ok nmX7 hK hw hnm 0 14 k45 dX7_init_103 rfl rfl (by decide) rfl rfl rfl rfl (Nat.le_of_ble_eq_true rfl) rfl (fun H locs hw => ?_)
  refine lv_aload_n hx hb dX7_init_106 rfl (lv_at hl 0 rfl) ?_
  refine lv_bipush (v := (40 : Int32)) hx hb dX7_init_107 (by decide) ?_
  refine g_newa (cA := cZ) (ty := .boolean) (N' := 40) (a0 := (40, .inl (fun _ => 0))) S rfl (by decide +kernel) hK hw hA 1 rfl (fun _ _ h1 h2 => Option.some.inj (h1.symm.trans h2)) (fun _ => rfl) (by decide) rfl (by decide) (Nat.le_of_ble_eq_true rfl) (Nat.le_of_ble_eq_true rfl) dX7_init_109 (fun a12 H hw => ?_)
  refine W.widen (k := 12) (n := 2285) (by decide) (by decide) ?_
  have hw : Wd D A s.heap [(q_t, .inr (7, [.ref a1, .ref a2, .int 0, .ref a3, .ref a4, .int 0, .ref a5, .ref a6, .int 0, .ref a7, .ref a8, .ref a9, .int (1 : Int32), .ref a10, .ref a11, .null, .null, .null, .null, .null, .null, .int 0])), (a1, .inl (cZ, 240, .inl (fun _ => 0))), (a2, .inl (cZ, 240, .inl (fun _ => 0))), (a3, .inl (cZ, 240, .inl (fun _ => 0))), (a4, .inl (cI, 240, .inl (fun _ => 0))), (a5, .inl (cI, 241, .inl (fun _ => 0))), (a6, .inl (cI, 241, .inl (fun _ => 0))), (a7, .inl (cI, 241, .inl (fun _ => 0))), (a8, .inl (cI, 241, .inl (fun _ => 0))), (a9, .inl (cI, 241, .inl (fun _ => 0))), (a10, .inl (cZ, 40, .inl (fun _ => 0))), (a11, .inl (cZ, 40, .inl (fun _ => 0))), (a12, .inl (cZ, 40, .inl (fun _ => 0)))] H _ := hw
  refine g_putF (ci := 7) (C := RX7) (T := TX7) (N := 22) (ws' := [(q_t, .inr (7, [.ref a1, .ref a2, .int 0, .ref a3, .ref a4, .int 0, .ref a5, .ref a6, .int 0, .ref a7, .ref a8, .ref a9, .int (1 : Int32), .ref a10, .ref a11, .ref a12, .null, .null, .null, .null, .null, .int 0])), (a1, .inl (cZ, 240, .inl (fun _ => 0))), (a2, .inl (cZ, 240, .inl (fun _ => 0))), (a3, .inl (cZ, 240, .inl (fun _ => 0))), (a4, .inl (cI, 240, .inl (fun _ => 0))), (a5, .inl (cI, 241, .inl (fun _ => 0))), (a6, .inl (cI, 241, .inl (fun _ => 0))), (a7, .inl (cI, 241, .inl (fun _ => 0))), (a8, .inl (cI, 241, .inl (fun _ => 0))), (a9, .inl (cI, 241, .inl (fun _ => 0))), (a10, .inl (cZ, 40, .inl (fun _ => 0))), (a11, .inl (cZ, 40, .inl (fun _ => 0))), (a12, .inl (cZ, 40, .inl (fun _ => 0)))]) S hinX7 tyX7 tyX7_ok nmX7 hK hw hnm 0 15 k48 dX7_init_111 rfl rfl (by decide) rfl rfl rfl rfl (Nat.le_of_ble_eq_true rfl) rfl (fun H locs hw => ?_)
  refine lv_aload_n hx hb dX7_init_114 rfl (lv_at hl 0 rfl) ?_
  refine lv_iconst (v := (4 : Int32)) hx hb dX7_init_115 (by decide) ?_
  refine g_newa (cA := cZ) (ty := .boolean) (N' := 4) (a0 := (4, .inl (fun _ => 0))) S rfl (by decide +kernel) hK hw hA 1 rfl (fun _ _ h1 h2 => Option.some.inj (h1.symm.trans h2)) (fun _ => rfl) (by decide) rfl (by decide) (Nat.le_of_ble_eq_true rfl) (Nat.le_of_ble_eq_true rfl) dX7_init_116 (fun a13 H hw => ?_)
  refine W.widen (k := 13) (n := 2289) (by decide) (by decide) ?_
  have hw : Wd D A s.heap [(q_t, .inr (7, [.ref a1, .ref a2, .int 0, .ref a3, .ref a4, .int 0, .ref a5, .ref a6, .int 0, .ref a7, .ref a8, .ref a9, .int (1 : Int32), .ref a10, .ref a11, .ref a12, .null, .null, .null, .null, .null, .int 0])), (a1, .inl (cZ, 240, .inl (fun _ => 0))), (a2, .inl (cZ, 240, .inl (fun _ => 0))), (a3, .inl (cZ, 240, .inl (fun _ => 0))), (a4, .inl (cI, 240, .inl (fun _ => 0))), (a5, .inl (cI, 241, .inl (fun _ => 0))), (a6, .inl (cI, 241, .inl (fun _ => 0))), (a7, .inl (cI, 241, .inl (fun _ => 0))), (a8, .inl (cI, 241, .inl (fun _ => 0))), (a9, .inl (cI, 241, .inl (fun _ => 0))), (a10, .inl (cZ, 40, .inl (fun _ => 0))), (a11, .inl (cZ, 40, .inl (fun _ => 0))), (a12, .inl (cZ, 40, .inl (fun _ => 0))), (a13, .inl (cZ, 4, .inl (fun _ => 0)))] H _ := hw
  refine g_putF (ci := 7) (C := RX7) (T := TX7) (N := 22) (ws' := [(q_t, .inr (7, [.ref a1, .ref a2, .int 0, .ref a3, .ref a4, .int 0, .ref a5, .ref a6, .int 0, .ref a7, .ref a8, .ref a9, .int (1 : Int32), .ref a10, .ref a11, .ref a12, .ref a13, .null, .null, .null, .null, .int 0])), (a1, .inl (cZ, 240, .inl (fun _ => 0))), (a2, .inl (cZ, 240, .inl (fun _ => 0))), (a3, .inl (cZ, 240, .inl (fun _ => 0))), (a4, .inl (cI, 240, .inl (fun _ => 0))), (a5, .inl (cI, 241, .inl (fun _ => 0))), (a6, .inl (cI, 241, .inl (fun _ => 0))), (a7, .inl (cI, 241, .inl (fun _ => 0))), (a8, .inl (cI, 241, .inl (fun _ => 0))), (a9, .inl (cI, 241, .inl (fun _ => 0))), (a10, .inl (cZ, 40, .inl (fun _ => 0))), (a11, .inl (cZ, 40, .inl (fun _ => 0))), (a12, .inl (cZ, 40, .inl (fun _ => 0))), (a13, .inl (cZ, 4, .inl (fun _ => 0)))]) S hinX7 tyX7 tyX7_ok nmX7 hK hw hnm 0 16 k51 dX7_init_118 rfl rfl (by decide) rfl rfl rfl rfl (Nat.le_of_ble_eq_true rfl) rfl (fun H locs hw => ?_)
  refine lv_aload_n hx hb dX7_init_121 rfl (lv_at hl 0 rfl) ?_
  refine lv_iconst (v := (4 : Int32)) hx hb dX7_init_122 (by decide) ?_
  refine g_newa (cA := cI) (ty := .int) (N' := 4) (a0 := (4, .inl (fun _ => 0))) S rfl (by decide +kernel) hK hw hA 0 rfl (fun _ _ h1 h2 => Option.some.inj (h1.symm.trans h2)) (fun _ => rfl) (by decide) rfl (by decide) (Nat.le_of_ble_eq_true rfl) (Nat.le_of_ble_eq_true rfl) dX7_init_123 (fun a14 H hw => ?_)
  refine W.widen (k := 14) (n := 2293) (by decide) (by decide) ?_
  have hw : Wd D A s.heap [(q_t, .inr (7, [.ref a1, .ref a2, .int 0, .ref a3, .ref a4, .int 0, .ref a5, .ref a6, .int 0, .ref a7, .ref a8, .ref a9, .int (1 : Int32), .ref a10, .ref a11, .ref a12, .ref a13, .null, .null, .null, .null, .int 0])), (a1, .inl (cZ, 240, .inl (fun _ => 0))), (a2, .inl (cZ, 240, .inl (fun _ => 0))), (a3, .inl (cZ, 240, .inl (fun _ => 0))), (a4, .inl (cI, 240, .inl (fun _ => 0))), (a5, .inl (cI, 241, .inl (fun _ => 0))), (a6, .inl (cI, 241, .inl (fun _ => 0))), (a7, .inl (cI, 241, .inl (fun _ => 0))), (a8, .inl (cI, 241, .inl (fun _ => 0))), (a9, .inl (cI, 241, .inl (fun _ => 0))), (a10, .inl (cZ, 40, .inl (fun _ => 0))), (a11, .inl (cZ, 40, .inl (fun _ => 0))), (a12, .inl (cZ, 40, .inl (fun _ => 0))), (a13, .inl (cZ, 4, .inl (fun _ => 0))), (a14, .inl (cI, 4, .inl (fun _ => 0)))] H _ := hw
  refine g_putF (ci := 7) (C := RX7) (T := TX7) (N := 22) (ws' := [(q_t, .inr (7, [.ref a1, .ref a2, .int 0, .ref a3, .ref a4, .int 0, .ref a5, .ref a6, .int 0, .ref a7, .ref a8, .ref a9, .int (1 : Int32), .ref a10, .ref a11, .ref a12, .ref a13, .ref a14, .null, .null, .null, .int 0])), (a1, .inl (cZ, 240, .inl (fun _ => 0))), (a2, .inl (cZ, 240, .inl (fun _ => 0))), (a3, .inl (cZ, 240, .inl (fun _ => 0))), (a4, .inl (cI, 240, .inl (fun _ => 0))), (a5, .inl (cI, 241, .inl (fun _ => 0))), (a6, .inl (cI, 241, .inl (fun _ => 0))), (a7, .inl (cI, 241, .inl (fun _ => 0))), (a8, .inl (cI, 241, .inl (fun _ => 0))), (a9, .inl (cI, 241, .inl (fun _ => 0))), (a10, .inl (cZ, 40, .inl (fun _ => 0))), (a11, .inl (cZ, 40, .inl (fun _ => 0))), (a12, .inl (cZ, 40, .inl (fun _ => 0))), (a13, .inl (cZ, 4, .inl (fun _ => 0))), (a14, .inl (cI, 4, .inl (fun _ => 0)))]) S hinX7 tyX7 tyX7_ok nmX7 hK hw hnm 0 17 k54 dX7_init_125 rfl rfl (by decide) rfl rfl rfl rfl (Nat.le_of_ble_eq_true rfl) rfl (fun H locs hw => ?_)
  refine lv_aload_n hx hb dX7_init_128 rfl (lv_at hl 0 rfl) ?_
  refine lv_iconst (v := (4 : Int32)) hx hb dX7_init_129 (by decide) ?_
  refine g_newa (cA := cI) (ty := .int) (N' := 4) (a0 := (4, .inl (fun _ => 0))) S rfl (by decide +kernel) hK hw hA 0 rfl (fun _ _ h1 h2 => Option.some.inj (h1.symm.trans h2)) (fun _ => rfl) (by decide) rfl (by decide) (Nat.le_of_ble_eq_true rfl) (Nat.le_of_ble_eq_true rfl) dX7_init_130 (fun a15 H hw => ?_)
  refine W.widen (k := 15) (n := 2297) (by decide) (by decide) ?_
  have hw : Wd D A s.heap [(q_t, .inr (7, [.ref a1, .ref a2, .int 0, .ref a3, .ref a4, .int 0, .ref a5, .ref a6, .int 0, .ref a7, .ref a8, .ref a9, .int (1 : Int32), .ref a10, .ref a11, .ref a12, .ref a13, .ref a14, .null, .null, .null, .int 0])), (a1, .inl (cZ, 240, .inl (fun _ => 0))), (a2, .inl (cZ, 240, .inl (fun _ => 0))), (a3, .inl (cZ, 240, .inl (fun _ => 0))), (a4, .inl (cI, 240, .inl (fun _ => 0))), (a5, .inl (cI, 241, .inl (fun _ => 0))), (a6, .inl (cI, 241, .inl (fun _ => 0))), (a7, .inl (cI, 241, .inl (fun _ => 0))), (a8, .inl (cI, 241, .inl (fun _ => 0))), (a9, .inl (cI, 241, .inl (fun _ => 0))), (a10, .inl (cZ, 40, .inl (fun _ => 0))), (a11, .inl (cZ, 40, .inl (fun _ => 0))), (a12, .inl (cZ, 40, .inl (fun _ => 0))), (a13, .inl (cZ, 4, .inl (fun _ => 0))), (a14, .inl (cI, 4, .inl (fun _ => 0))), (a15, .inl (cI, 4, .inl (fun _ => 0)))] H _ := hw
  refine g_putF (ci := 7) (C := RX7) (T := TX7) (N := 22) (ws' := [(q_t, .inr (7, [.ref a1, .ref a2, .int 0, .ref a3, .ref a4, .int 0, .ref a5, .ref a6, .int 0, .ref a7, .ref a8, .ref a9, .int (1 : Int32), .ref a10, .ref a11, .ref a12, .ref a13, .ref a14, .ref a15, .null, .null, .int 0])), (a1, .inl (cZ, 240, .inl (fun _ => 0))), (a2, .inl (cZ, 240, .inl (fun _ => 0))), (a3, .inl (cZ, 240, .inl (fun _ => 0))), (a4, .inl (cI, 240, .inl (fun _ => 0))), (a5, .inl (cI, 241, .inl (fun _ => 0))), (a6, .inl (cI, 241, .inl (fun _ => 0))), (a7, .inl (cI, 241, .inl (fun _ => 0))), (a8, .inl (cI, 241, .inl (fun _ => 0))), (a9, .inl (cI, 241, .inl (fun _ => 0))), (a10, .inl (cZ, 40, .inl (fun _ => 0))), (a11, .inl (cZ, 40, .inl (fun _ => 0))), (a12, .inl (cZ, 40, .inl (fun _ => 0))), (a13, .inl (cZ, 4, .inl (fun _ => 0))), (a14, .inl (cI, 4, .inl (fun _ => 0))), (a15, .inl (cI, 4, .inl (fun _ => 0)))]) S hinX7 tyX7 tyX7_ok nmX7 hK hw hnm 0 18 k57 dX7_init_132 rfl rfl (by decide) rfl rfl rfl rfl (Nat.le_of_ble_eq_true rfl) rfl (fun H locs hw => ?_)
  refine lv_aload_n hx hb dX7_init_135 rfl (lv_at hl 0 rfl) ?_
  refine lv_sipush (v := (400 : Int32)) hx hb dX7_init_136 (by decide) ?_
  refine g_newa (cA := cI) (ty := .int) (N' := 400) (a0 := (400, .inl (fun _ => 0))) S rfl (by decide +kernel) hK hw hA 0 rfl (fun _ _ h1 h2 => Option.some.inj (h1.symm.trans h2)) (fun _ => rfl) (by decide) rfl (by decide) (Nat.le_of_ble_eq_true rfl) (Nat.le_of_ble_eq_true rfl) dX7_init_139 (fun a16 H hw => ?_)
  refine W.widen (k := 16) (n := 2697) (by decide) (by decide) ?_
  have hw : Wd D A s.heap [(q_t, .inr (7, [.ref a1, .ref a2, .int 0, .ref a3, .ref a4, .int 0, .ref a5, .ref a6, .int 0, .ref a7, .ref a8, .ref a9, .int (1 : Int32), .ref a10, .ref a11, .ref a12, .ref a13, .ref a14, .ref a15, .null, .null, .int 0])), (a1, .inl (cZ, 240, .inl (fun _ => 0))), (a2, .inl (cZ, 240, .inl (fun _ => 0))), (a3, .inl (cZ, 240, .inl (fun _ => 0))), (a4, .inl (cI, 240, .inl (fun _ => 0))), (a5, .inl (cI, 241, .inl (fun _ => 0))), (a6, .inl (cI, 241, .inl (fun _ => 0))), (a7, .inl (cI, 241, .inl (fun _ => 0))), (a8, .inl (cI, 241, .inl (fun _ => 0))), (a9, .inl (cI, 241, .inl (fun _ => 0))), (a10, .inl (cZ, 40, .inl (fun _ => 0))), (a11, .inl (cZ, 40, .inl (fun _ => 0))), (a12, .inl (cZ, 40, .inl (fun _ => 0))), (a13, .inl (cZ, 4, .inl (fun _ => 0))), (a14, .inl (cI, 4, .inl (fun _ => 0))), (a15, .inl (cI, 4, .inl (fun _ => 0))), (a16, .inl (cI, 400, .inl (fun _ => 0)))] H _ := hw
  refine g_putF (ci := 7) (C := RX7) (T := TX7) (N := 22) (ws' := [(q_t, .inr (7, [.ref a1, .ref a2, .int 0, .ref a3, .ref a4, .int 0, .ref a5, .ref a6, .int 0, .ref a7, .ref a8, .ref a9, .int (1 : Int32), .ref a10, .ref a11, .ref a12, .ref a13, .ref a14, .ref a15, .ref a16, .null, .int 0])), (a1, .inl (cZ, 240, .inl (fun _ => 0))), (a2, .inl (cZ, 240, .inl (fun _ => 0))), (a3, .inl (cZ, 240, .inl (fun _ => 0))), (a4, .inl (cI, 240, .inl (fun _ => 0))), (a5, .inl (cI, 241, .inl (fun _ => 0))), (a6, .inl (cI, 241, .inl (fun _ => 0))), (a7, .inl (cI, 241, .inl (fun _ => 0))), (a8, .inl (cI, 241, .inl (fun _ => 0))), (a9, .inl (cI, 241, .inl (fun _ => 0))), (a10, .inl (cZ, 40, .inl (fun _ => 0))), (a11, .inl (cZ, 40, .inl (fun _ => 0))), (a12, .inl (cZ, 40, .inl (fun _ => 0))), (a13, .inl (cZ, 4, .inl (fun _ => 0))), (a14, .inl (cI, 4, .inl (fun _ => 0))), (a15, .inl (cI, 4, .inl (fun _ => 0))), (a16, .inl (cI, 400, .inl (fun _ => 0)))]) S hinX7 tyX7 tyX7_ok nmX7 hK hw hnm 0 19 k60 dX7_init_141 rfl rfl (by decide) rfl rfl rfl rfl (Nat.le_of_ble_eq_true rfl) rfl (fun H locs hw => ?_)
  refine lv_aload_n hx hb dX7_init_144 rfl (lv_at hl 0 rfl) ?_
  refine lv_bipush (v := (100 : Int32)) hx hb dX7_init_145 (by decide) ?_
  refine g_newa (cA := cI) (ty := .int) (N' := 100) (a0 := (100, .inl (fun _ => 0))) S rfl (by decide +kernel) hK hw hA 0 rfl (fun _ _ h1 h2 => Option.some.inj (h1.symm.trans h2)) (fun _ => rfl) (by decide) rfl (by decide) (Nat.le_of_ble_eq_true rfl) (Nat.le_of_ble_eq_true rfl) dX7_init_147 (fun a17 H hw => ?_)
  refine W.widen (k := 17) (n := 2797) (by decide) (by decide) ?_
  have hw : Wd D A s.heap [(q_t, .inr (7, [.ref a1, .ref a2, .int 0, .ref a3, .ref a4, .int 0, .ref a5, .ref a6, .int 0, .ref a7, .ref a8, .ref a9, .int (1 : Int32), .ref a10, .ref a11, .ref a12, .ref a13, .ref a14, .ref a15, .ref a16, .null, .int 0])), (a1, .inl (cZ, 240, .inl (fun _ => 0))), (a2, .inl (cZ, 240, .inl (fun _ => 0))), (a3, .inl (cZ, 240, .inl (fun _ => 0))), (a4, .inl (cI, 240, .inl (fun _ => 0))), (a5, .inl (cI, 241, .inl (fun _ => 0))), (a6, .inl (cI, 241, .inl (fun _ => 0))), (a7, .inl (cI, 241, .inl (fun _ => 0))), (a8, .inl (cI, 241, .inl (fun _ => 0))), (a9, .inl (cI, 241, .inl (fun _ => 0))), (a10, .inl (cZ, 40, .inl (fun _ => 0))), (a11, .inl (cZ, 40, .inl (fun _ => 0))), (a12, .inl (cZ, 40, .inl (fun _ => 0))), (a13, .inl (cZ, 4, .inl (fun _ => 0))), (a14, .inl (cI, 4, .inl (fun _ => 0))), (a15, .inl (cI, 4, .inl (fun _ => 0))), (a16, .inl (cI, 400, .inl (fun _ => 0))), (a17, .inl (cI, 100, .inl (fun _ => 0)))] H _ := hw
  refine g_putF (ci := 7) (C := RX7) (T := TX7) (N := 22) (ws' := [(q_t, .inr (7, [.ref a1, .ref a2, .int 0, .ref a3, .ref a4, .int 0, .ref a5, .ref a6, .int 0, .ref a7, .ref a8, .ref a9, .int (1 : Int32), .ref a10, .ref a11, .ref a12, .ref a13, .ref a14, .ref a15, .ref a16, .ref a17, .int 0])), (a1, .inl (cZ, 240, .inl (fun _ => 0))), (a2, .inl (cZ, 240, .inl (fun _ => 0))), (a3, .inl (cZ, 240, .inl (fun _ => 0))), (a4, .inl (cI, 240, .inl (fun _ => 0))), (a5, .inl (cI, 241, .inl (fun _ => 0))), (a6, .inl (cI, 241, .inl (fun _ => 0))), (a7, .inl (cI, 241, .inl (fun _ => 0))), (a8, .inl (cI, 241, .inl (fun _ => 0))), (a9, .inl (cI, 241, .inl (fun _ => 0))), (a10, .inl (cZ, 40, .inl (fun _ => 0))), (a11, .inl (cZ, 40, .inl (fun _ => 0))), (a12, .inl (cZ, 40, .inl (fun _ => 0))), (a13, .inl (cZ, 4, .inl (fun _ => 0))), (a14, .inl (cI, 4, .inl (fun _ => 0))), (a15, .inl (cI, 4, .inl (fun _ => 0))), (a16, .inl (cI, 400, .inl (fun _ => 0))), (a17, .inl (cI, 100, .inl (fun _ => 0)))]) S hinX7 tyX7 tyX7_ok nmX7 hK hw hnm 0 20 k63 dX7_init_149 rfl rfl (by decide) rfl rfl rfl rfl (Nat.le_of_ble_eq_true rfl) rfl (fun H locs hw => ?_)
  exact rt_n (fun k => ([a1, a2, a3, a4, a5, a6, a7, a8, a9, a10, a11, a12, a13, a14, a15, a16, a17] : List Nat).getD k 0) [0, 1, 2, 3, 4, 5, 6, 7, 8, 9, 10, 11, 12, 13, 14, 15, 16, 17] S hr hlk hw rfl rfl dX7_init_152
end
