section
-- ===== PART A: goes FIRST, ahead of the names: the tables' words, and 'selects' of the private methods out of them =====
/-- a private method of a class that the tables say can be made, by its rows of tables_1 -/
def lw_okq (q : MethodName × Nat) : Prop := (q.1.cls ≠ "java/lang/invoke/MethodHandle" ∧ q.1.cls ≠ "java/lang/invoke/VarHandle") ∧ Cond.instantiable q.1.cls q.2 ∈ tables_1 ∧ Cond.privateMethod q.1 ∈ tables_1 ∧ Cond.instanceMethod q.1 ∈ tables_1
theorem lw_p0 : lw_okq (⟨"java/lang/Throwable", "fillInStackTrace", "(I)Ljava/lang/Throwable;"⟩, 6) := ⟨⟨by decide +kernel, by decide +kernel⟩, List.mem_of_getElem? (i := 213) (by decide +kernel), List.mem_of_getElem? (i := 211) (by decide +kernel), List.mem_of_getElem? (i := 212) (by decide +kernel)⟩
theorem lw_p1 : lw_okq (⟨"TurnsHall", "unused", "()LTurnsHall$Drawing;"⟩, 7) := ⟨⟨by decide +kernel, by decide +kernel⟩, List.mem_of_getElem? (i := 20) (by decide +kernel), List.mem_of_getElem? (i := 243) (by decide +kernel), List.mem_of_getElem? (i := 244) (by decide +kernel)⟩
theorem lw_p2 : lw_okq (⟨"TurnsHall", "slot", "(I)LTurnsHall$Drawing;"⟩, 7) := ⟨⟨by decide +kernel, by decide +kernel⟩, List.mem_of_getElem? (i := 20) (by decide +kernel), List.mem_of_getElem? (i := 247) (by decide +kernel), List.mem_of_getElem? (i := 248) (by decide +kernel)⟩
theorem lw_p3 : lw_okq (⟨"TurnsHall$Shelf", "tell", "(LTurnsHall$Signs;)V"⟩, 3) := ⟨⟨by decide +kernel, by decide +kernel⟩, List.mem_of_getElem? (i := 28) (by decide +kernel), List.mem_of_getElem? (i := 252) (by decide +kernel), List.mem_of_getElem? (i := 253) (by decide +kernel)⟩
theorem lw_p4 : lw_okq (⟨"TurnsHall$Shelf", "turnOf", "(III)I"⟩, 3) := ⟨⟨by decide +kernel, by decide +kernel⟩, List.mem_of_getElem? (i := 28) (by decide +kernel), List.mem_of_getElem? (i := 256) (by decide +kernel), List.mem_of_getElem? (i := 257) (by decide +kernel)⟩
theorem lw_p5 : lw_okq (⟨"TurnsHall$Shelf", "xOf", "(I)I"⟩, 3) := ⟨⟨by decide +kernel, by decide +kernel⟩, List.mem_of_getElem? (i := 28) (by decide +kernel), List.mem_of_getElem? (i := 260) (by decide +kernel), List.mem_of_getElem? (i := 261) (by decide +kernel)⟩
theorem lw_p6 : lw_okq (⟨"TurnsHall$Shelf", "yOf", "(I)I"⟩, 3) := ⟨⟨by decide +kernel, by decide +kernel⟩, List.mem_of_getElem? (i := 28) (by decide +kernel), List.mem_of_getElem? (i := 267) (by decide +kernel), List.mem_of_getElem? (i := 268) (by decide +kernel)⟩
theorem lw_p7 : lw_okq (⟨"TurnsHall$Shelf", "turn", "(IIII)I"⟩, 3) := ⟨⟨by decide +kernel, by decide +kernel⟩, List.mem_of_getElem? (i := 28) (by decide +kernel), List.mem_of_getElem? (i := 271) (by decide +kernel), List.mem_of_getElem? (i := 272) (by decide +kernel)⟩
theorem lw_p8 : lw_okq (⟨"TurnsHall$Signs", "put", "(IIII)V"⟩, 2) := ⟨⟨by decide +kernel, by decide +kernel⟩, List.mem_of_getElem? (i := 95) (by decide +kernel), List.mem_of_getElem? (i := 278) (by decide +kernel), List.mem_of_getElem? (i := 279) (by decide +kernel)⟩
theorem lw_p9 : lw_okq (⟨"TurnsHall$Drawing", "giveNumbers", "(LTurnsHall$Shelf;)V"⟩, 6) := ⟨⟨by decide +kernel, by decide +kernel⟩, List.mem_of_getElem? (i := 112) (by decide +kernel), List.mem_of_getElem? (i := 288) (by decide +kernel), List.mem_of_getElem? (i := 289) (by decide +kernel)⟩
theorem lw_p10 : lw_okq (⟨"TurnsHall", "finished", "()I"⟩, 7) := ⟨⟨by decide +kernel, by decide +kernel⟩, List.mem_of_getElem? (i := 20) (by decide +kernel), List.mem_of_getElem? (i := 295) (by decide +kernel), List.mem_of_getElem? (i := 296) (by decide +kernel)⟩
theorem lw_p11 : lw_okq (⟨"TurnsHall", "known", "(I)LTurnsHall$Drawing;"⟩, 7) := ⟨⟨by decide +kernel, by decide +kernel⟩, List.mem_of_getElem? (i := 20) (by decide +kernel), List.mem_of_getElem? (i := 303) (by decide +kernel), List.mem_of_getElem? (i := 304) (by decide +kernel)⟩
theorem lw_p12 : lw_okq (⟨"TurnsHall$Signs", "turnOver", "(III)Z"⟩, 2) := ⟨⟨by decide +kernel, by decide +kernel⟩, List.mem_of_getElem? (i := 95) (by decide +kernel), List.mem_of_getElem? (i := 343) (by decide +kernel), List.mem_of_getElem? (i := 344) (by decide +kernel)⟩
theorem lw_p13 : lw_okq (⟨"TurnsHall$Signs", "of", "(III)I"⟩, 2) := ⟨⟨by decide +kernel, by decide +kernel⟩, List.mem_of_getElem? (i := 95) (by decide +kernel), List.mem_of_getElem? (i := 347) (by decide +kernel), List.mem_of_getElem? (i := 348) (by decide +kernel)⟩
theorem lw_p14 : lw_okq (⟨"TurnsHall$Signs", "fits", "(III)Z"⟩, 2) := ⟨⟨by decide +kernel, by decide +kernel⟩, List.mem_of_getElem? (i := 95) (by decide +kernel), List.mem_of_getElem? (i := 353) (by decide +kernel), List.mem_of_getElem? (i := 354) (by decide +kernel)⟩
theorem lw_p15 : lw_okq (⟨"TurnsHall$Signs", "fourHold", "(IIII)Z"⟩, 2) := ⟨⟨by decide +kernel, by decide +kernel⟩, List.mem_of_getElem? (i := 95) (by decide +kernel), List.mem_of_getElem? (i := 357) (by decide +kernel), List.mem_of_getElem? (i := 358) (by decide +kernel)⟩
def lw_privs_1 : List (MethodName × Nat) := [(⟨"java/lang/Throwable", "fillInStackTrace", "(I)Ljava/lang/Throwable;"⟩, 6), (⟨"TurnsHall", "unused", "()LTurnsHall$Drawing;"⟩, 7), (⟨"TurnsHall", "slot", "(I)LTurnsHall$Drawing;"⟩, 7), (⟨"TurnsHall$Shelf", "tell", "(LTurnsHall$Signs;)V"⟩, 3), (⟨"TurnsHall$Shelf", "turnOf", "(III)I"⟩, 3), (⟨"TurnsHall$Shelf", "xOf", "(I)I"⟩, 3), (⟨"TurnsHall$Shelf", "yOf", "(I)I"⟩, 3), (⟨"TurnsHall$Shelf", "turn", "(IIII)I"⟩, 3), (⟨"TurnsHall$Signs", "put", "(IIII)V"⟩, 2), (⟨"TurnsHall$Drawing", "giveNumbers", "(LTurnsHall$Shelf;)V"⟩, 6), (⟨"TurnsHall", "finished", "()I"⟩, 7), (⟨"TurnsHall", "known", "(I)LTurnsHall$Drawing;"⟩, 7), (⟨"TurnsHall$Signs", "turnOver", "(III)Z"⟩, 2), (⟨"TurnsHall$Signs", "of", "(III)I"⟩, 2), (⟨"TurnsHall$Signs", "fits", "(III)Z"⟩, 2), (⟨"TurnsHall$Signs", "fourHold", "(IIII)Z"⟩, 2)]
theorem lw_r1 : ∀ q ∈ lw_privs_1, lw_okq q := List.forall_mem_cons.mpr ⟨lw_p0, List.forall_mem_cons.mpr ⟨lw_p1, List.forall_mem_cons.mpr ⟨lw_p2, List.forall_mem_cons.mpr ⟨lw_p3, List.forall_mem_cons.mpr ⟨lw_p4, List.forall_mem_cons.mpr ⟨lw_p5, List.forall_mem_cons.mpr ⟨lw_p6, List.forall_mem_cons.mpr ⟨lw_p7, List.forall_mem_cons.mpr ⟨lw_p8, List.forall_mem_cons.mpr ⟨lw_p9, List.forall_mem_cons.mpr ⟨lw_p10, List.forall_mem_cons.mpr ⟨lw_p11, List.forall_mem_cons.mpr ⟨lw_p12, List.forall_mem_cons.mpr ⟨lw_p13, List.forall_mem_cons.mpr ⟨lw_p14, List.forall_mem_cons.mpr ⟨lw_p15, fun _ h => absurd h List.not_mem_nil⟩⟩⟩⟩⟩⟩⟩⟩⟩⟩⟩⟩⟩⟩⟩⟩
theorem lw_p16 : lw_okq (⟨"TurnsHall$Signs", "fiveHoldAround", "(IIIII)Z"⟩, 2) := ⟨⟨by decide +kernel, by decide +kernel⟩, List.mem_of_getElem? (i := 95) (by decide +kernel), List.mem_of_getElem? (i := 361) (by decide +kernel), List.mem_of_getElem? (i := 362) (by decide +kernel)⟩
theorem lw_p17 : lw_okq (⟨"TurnsHall$Signs", "fiveHold", "(IIIII)Z"⟩, 2) := ⟨⟨by decide +kernel, by decide +kernel⟩, List.mem_of_getElem? (i := 95) (by decide +kernel), List.mem_of_getElem? (i := 365) (by decide +kernel), List.mem_of_getElem? (i := 366) (by decide +kernel)⟩
theorem lw_p18 : lw_okq (⟨"TurnsHall$Signs", "exchange", "(II)V"⟩, 2) := ⟨⟨by decide +kernel, by decide +kernel⟩, List.mem_of_getElem? (i := 95) (by decide +kernel), List.mem_of_getElem? (i := 374) (by decide +kernel), List.mem_of_getElem? (i := 375) (by decide +kernel)⟩
theorem lw_p19 : lw_okq (⟨"TurnsHall$Segments", "read", "(LTurnsHall$Signs;)V"⟩, 2) := ⟨⟨by decide +kernel, by decide +kernel⟩, List.mem_of_getElem? (i := 66) (by decide +kernel), List.mem_of_getElem? (i := 410) (by decide +kernel), List.mem_of_getElem? (i := 411) (by decide +kernel)⟩
theorem lw_p20 : lw_okq (⟨"TurnsHall$Segments", "note", "(LTurnsHall$Signs;IIII)V"⟩, 2) := ⟨⟨by decide +kernel, by decide +kernel⟩, List.mem_of_getElem? (i := 66) (by decide +kernel), List.mem_of_getElem? (i := 414) (by decide +kernel), List.mem_of_getElem? (i := 415) (by decide +kernel)⟩
theorem lw_p21 : lw_okq (⟨"TurnsHall$Signs", "crosses", "(IIII)Z"⟩, 2) := ⟨⟨by decide +kernel, by decide +kernel⟩, List.mem_of_getElem? (i := 95) (by decide +kernel), List.mem_of_getElem? (i := 418) (by decide +kernel), List.mem_of_getElem? (i := 419) (by decide +kernel)⟩
theorem lw_p22 : lw_okq (⟨"TurnsHall$Segments", "firstTriangulation", "()I"⟩, 2) := ⟨⟨by decide +kernel, by decide +kernel⟩, List.mem_of_getElem? (i := 66) (by decide +kernel), List.mem_of_getElem? (i := 436) (by decide +kernel), List.mem_of_getElem? (i := 437) (by decide +kernel)⟩
theorem lw_p23 : lw_okq (⟨"TurnsHall$Segments", "crossesNone", "(III)Z"⟩, 2) := ⟨⟨by decide +kernel, by decide +kernel⟩, List.mem_of_getElem? (i := 66) (by decide +kernel), List.mem_of_getElem? (i := 440) (by decide +kernel), List.mem_of_getElem? (i := 441) (by decide +kernel)⟩
theorem lw_p24 : lw_okq (⟨"TurnsHall$Drawing", "hasEdge", "(II)Z"⟩, 6) := ⟨⟨by decide +kernel, by decide +kernel⟩, List.mem_of_getElem? (i := 112) (by decide +kernel), List.mem_of_getElem? (i := 454) (by decide +kernel), List.mem_of_getElem? (i := 455) (by decide +kernel)⟩
theorem lw_p25 : lw_okq (⟨"TurnsHall$Shelf", "takes", "(II)Z"⟩, 3) := ⟨⟨by decide +kernel, by decide +kernel⟩, List.mem_of_getElem? (i := 28) (by decide +kernel), List.mem_of_getElem? (i := 477) (by decide +kernel), List.mem_of_getElem? (i := 478) (by decide +kernel)⟩
theorem lw_p26 : lw_okq (⟨"TurnsHall$Shelf", "put", "(II)V"⟩, 3) := ⟨⟨by decide +kernel, by decide +kernel⟩, List.mem_of_getElem? (i := 28) (by decide +kernel), List.mem_of_getElem? (i := 482) (by decide +kernel), List.mem_of_getElem? (i := 483) (by decide +kernel)⟩
theorem lw_p27 : lw_okq (⟨"TurnsHall$Drawing", "isCorner", "(IIII)Z"⟩, 6) := ⟨⟨by decide +kernel, by decide +kernel⟩, List.mem_of_getElem? (i := 112) (by decide +kernel), List.mem_of_getElem? (i := 495) (by decide +kernel), List.mem_of_getElem? (i := 496) (by decide +kernel)⟩
theorem lw_p28 : lw_okq (⟨"TurnsHall$Signs", "noneWithin", "(III)Z"⟩, 2) := ⟨⟨by decide +kernel, by decide +kernel⟩, List.mem_of_getElem? (i := 95) (by decide +kernel), List.mem_of_getElem? (i := 501) (by decide +kernel), List.mem_of_getElem? (i := 502) (by decide +kernel)⟩
theorem lw_p29 : lw_okq (⟨"TurnsHall$Signs", "isWithin", "(IIII)Z"⟩, 2) := ⟨⟨by decide +kernel, by decide +kernel⟩, List.mem_of_getElem? (i := 95) (by decide +kernel), List.mem_of_getElem? (i := 505) (by decide +kernel), List.mem_of_getElem? (i := 506) (by decide +kernel)⟩
theorem lw_p30 : lw_okq (⟨"TurnsHall$Signs", "take", "(LTurnsHall$Signs;I)V"⟩, 2) := ⟨⟨by decide +kernel, by decide +kernel⟩, List.mem_of_getElem? (i := 95) (by decide +kernel), List.mem_of_getElem? (i := 521) (by decide +kernel), List.mem_of_getElem? (i := 522) (by decide +kernel)⟩
theorem lw_p31 : lw_okq (⟨"TurnsHall$Segments", "pairsCrossing", "()I"⟩, 2) := ⟨⟨by decide +kernel, by decide +kernel⟩, List.mem_of_getElem? (i := 66) (by decide +kernel), List.mem_of_getElem? (i := 607) (by decide +kernel), List.mem_of_getElem? (i := 608) (by decide +kernel)⟩
def lw_privs_2 : List (MethodName × Nat) := [(⟨"TurnsHall$Signs", "fiveHoldAround", "(IIIII)Z"⟩, 2), (⟨"TurnsHall$Signs", "fiveHold", "(IIIII)Z"⟩, 2), (⟨"TurnsHall$Signs", "exchange", "(II)V"⟩, 2), (⟨"TurnsHall$Segments", "read", "(LTurnsHall$Signs;)V"⟩, 2), (⟨"TurnsHall$Segments", "note", "(LTurnsHall$Signs;IIII)V"⟩, 2), (⟨"TurnsHall$Signs", "crosses", "(IIII)Z"⟩, 2), (⟨"TurnsHall$Segments", "firstTriangulation", "()I"⟩, 2), (⟨"TurnsHall$Segments", "crossesNone", "(III)Z"⟩, 2), (⟨"TurnsHall$Drawing", "hasEdge", "(II)Z"⟩, 6), (⟨"TurnsHall$Shelf", "takes", "(II)Z"⟩, 3), (⟨"TurnsHall$Shelf", "put", "(II)V"⟩, 3), (⟨"TurnsHall$Drawing", "isCorner", "(IIII)Z"⟩, 6), (⟨"TurnsHall$Signs", "noneWithin", "(III)Z"⟩, 2), (⟨"TurnsHall$Signs", "isWithin", "(IIII)Z"⟩, 2), (⟨"TurnsHall$Signs", "take", "(LTurnsHall$Signs;I)V"⟩, 2), (⟨"TurnsHall$Segments", "pairsCrossing", "()I"⟩, 2)]
theorem lw_r2 : ∀ q ∈ lw_privs_2, lw_okq q := List.forall_mem_cons.mpr ⟨lw_p16, List.forall_mem_cons.mpr ⟨lw_p17, List.forall_mem_cons.mpr ⟨lw_p18, List.forall_mem_cons.mpr ⟨lw_p19, List.forall_mem_cons.mpr ⟨lw_p20, List.forall_mem_cons.mpr ⟨lw_p21, List.forall_mem_cons.mpr ⟨lw_p22, List.forall_mem_cons.mpr ⟨lw_p23, List.forall_mem_cons.mpr ⟨lw_p24, List.forall_mem_cons.mpr ⟨lw_p25, List.forall_mem_cons.mpr ⟨lw_p26, List.forall_mem_cons.mpr ⟨lw_p27, List.forall_mem_cons.mpr ⟨lw_p28, List.forall_mem_cons.mpr ⟨lw_p29, List.forall_mem_cons.mpr ⟨lw_p30, List.forall_mem_cons.mpr ⟨lw_p31, fun _ h => absurd h List.not_mem_nil⟩⟩⟩⟩⟩⟩⟩⟩⟩⟩⟩⟩⟩⟩⟩⟩
theorem lw_p32 : lw_okq (⟨"TurnsHall$Signs", "lesserSide", "(II)I"⟩, 2) := ⟨⟨by decide +kernel, by decide +kernel⟩, List.mem_of_getElem? (i := 95) (by decide +kernel), List.mem_of_getElem? (i := 627) (by decide +kernel), List.mem_of_getElem? (i := 628) (by decide +kernel)⟩
def lw_privs_3 : List (MethodName × Nat) := [(⟨"TurnsHall$Signs", "lesserSide", "(II)I"⟩, 2)]
theorem lw_r3 : ∀ q ∈ lw_privs_3, lw_okq q := List.forall_mem_cons.mpr ⟨lw_p32, fun _ h => absurd h List.not_mem_nil⟩
def lw_privs : List (MethodName × Nat) := lw_privs_1 ++ (lw_privs_2 ++ (lw_privs_3))
def lw_tbl : List Cond := k2_sels lw_privs ++ tables_1
theorem lw_privs_ok : ∀ q ∈ lw_privs, lw_okq q := by
  show ∀ q ∈ lw_privs_1 ++ (lw_privs_2 ++ (lw_privs_3)), lw_okq q
  exact List.forall_mem_append.mpr ⟨lw_r1, List.forall_mem_append.mpr ⟨lw_r2, lw_r3⟩⟩
/-! ===== BEGIN words of one list among another's, by their places ===== -/
theorem goodIn_r {big : List Cond} (ws : List Cond) (ps : List Nat) (hp : ws = ps.filterMap (fun i => big[i]?)) (h : ws.all goodWord = true) : GoodIn big ws := by
  intro w hw
  have h1 := List.all_eq_true.mp h w hw
  rw [hp] at hw
  obtain ⟨i, -, hi⟩ := List.mem_filterMap.mp hw
  have hm : w ∈ big := by first | exact List.mem_of_getElem? hi | exact List.getElem?_mem hi
  exact ⟨hm, good_of_word h1⟩
theorem goodIn_app {big a b : List Cond} (ha : GoodIn big a) (hb : GoodIn big b) : GoodIn big (a ++ b) := fun w h => (List.mem_append.mp h).elim (ha w) (hb w)
theorem goodIn_ca {big a b : List Cond} {c : Cond} (ha : GoodIn big (c :: a)) (hb : GoodIn big b) : GoodIn big (c :: (a ++ b)) := fun w h => (List.mem_cons.mp h).elim (fun e => ha w (List.mem_cons.mpr (Or.inl e))) (fun h => (List.mem_append.mp h).elim (fun h => ha w (List.mem_cons.mpr (Or.inr h))) (hb w))
theorem goodIn_sub {big ws : List Cond} (hm : ∀ w ∈ ws, w ∈ big) (h : ws.all goodWord = true) : GoodIn big ws := fun w hw => ⟨hm w hw, good_of_word (List.all_eq_true.mp h w hw)⟩
/-! ===== END ===== -/

/-! ===== BEGIN exceptions that leave a method, and their catching by the caller (launches without stack traces) ===== -/
section VXA
/-! The laws vx_back, vx_callV, vx_callS, vx_callSW, vx_throw0, vx_throwS follow proofs of the library, with one case more: JvmDerived/Free/Laws.lean (Back.of_free), Shelf42/LK1.lean (callV, callS), Shelf/KitTraced.lean (throwNew0V, throwNewS). -/
/-- where a method has thrown q: the class by its name, the cell, what was written, the world -/
def vx_T (XC : String → State → State → Prop) (st : State) (q : Addr) (t : State) (mc ms : Nat) (free : Addr → Prop) : Prop :=
  ∃ (E : String) (ce : Cell) (L : List Loc), XC E st t ∧ t.heap[q]? = some ce ∧ ce.vm = .none ∧ st.vm.findClass E = some ce.cls ∧ st.WarmedH t.vm ∧ st.sameButNew ({ t with vm := st.vm } : State) L mc ms ∧ ∀ z ∈ L, free z.base
def vx_Q (Qc : Array Value → State → Outcome → State → Prop) (XC : String → State → State → Prop) (mc ms : Nat) (free : Addr → Prop) : Array Value → State → Outcome → State → Prop := fun a st o t =>
  (Qc a st o t ∧ ∃ L, FrameEnd st o t L mc ms ∧ ∀ q ∈ L, free q.base) ∨ ∃ q, o = .threw q ∧ vx_T XC st q t mc ms free
/-- a callee that returns or throws -/
def vx_Met (l : Launch) (y : MethodName) (ws : List Cond) (rm : Room) (Pc : Array Value → State → Prop) (Qc : Array Value → State → Outcome → State → Prop) (XC : String → State → State → Prop) (mc ms : Nat) (free : Addr → Prop) : Prop :=
  MetFree l y (headSpec ws rm) Pc (fun _ _ _ _ _ => True) (vx_Q Qc XC mc ms free)
def vx_Post (XC : String → State → State → Prop) (mc ms : Nat) (free : Addr → Prop) : Pt → Array Value → Addr → Pt → Prop := fun A a q B =>
  ∃ (g : JFrame) (mk : MethodId) (t : State) (L : List Loc) (E : String) (ce : Cell), B.U.heap = t.heap ∧ B.U.vm = t.vm ∧ XC E (A.U.calling g mk a) t ∧ t.heap[q]? = some ce ∧ ce.vm = .none ∧ A.U.vm.findClass E = some ce.cls ∧ B.locs = A.locs ++ L ∧ (∀ z ∈ L, free z.base) ∧ B.cells = A.cells + mc ∧ B.slots = A.slots + ms
def vx_Back (l : Launch) (R : Room) (p : Program) (e : Env) (below : List Frame) (s : State) (sargs : Array Value) (y : MethodName) (len W9 : Nat)
    (Pre : Pt → Array Value → Prop) (Post : Pt → Array Value → Option Value → Pt → Prop) (PostX : Pt → Array Value → Addr → Pt → Prop) : Prop :=
  ∀ (m : MethodId) (meth : Method) (c : Code) (A : Pt) (g : JFrame) (ig : Instr) (mk : MethodId) (a : Array Value),
    Stand p l e R s m sargs below meth c A.U A.locs A.cells A.slots → g.method = m → g.locals.size = c.maxLocals → decode c.code g.pc = .ok (ig, len) →
    2 * g.monitorRoom + (g.stack.map fun v => v.category).sum ≤ W9 → A.U.methodNamed? y = some mk → Pre A a →
    (∃ (v : Option Value) (B : Pt), Stand p l e R s m sargs below meth c B.U B.locs B.cells B.slots ∧ Post A a v B ∧
      Steps p.tables e below (doInvoke e (A.U.setTop g) [] mk a).1 (B.U.setTop { g with pc := g.pc + len, stack := v.toList ++ g.stack })) ∨
    (∃ (q : Addr) (B : Pt), Stand p l e R s m sargs below meth c B.U B.locs B.cells B.slots ∧ PostX A a q B ∧
      Steps p.tables e below (doInvoke e (A.U.setTop g) [] mk a).1 ((B.U.setTop g).pushFrame (.throwing q)))
section Payer
variable {l : Launch} {R : Room} {p : Program} {e : Env} {below : List Frame} {s : State} {sargs : Array Value} {y : MethodName} {len W9 : Nat}
theorem vx_back {ws : List Cond} {rm : Room} {Pc : Array Value → State → Prop} {Qc : Array Value → State → Outcome → State → Prop} {XC : String → State → State → Prop} {mc ms : Nat} {free : Addr → Prop} {bytes : ByteArray} {maxL : Nat} {ret : Option FieldType}
    (hM : vx_Met l y ws rm Pc Qc XC mc ms free) (hblind : FrameBlind Pc) (hrc : rm.cells = mc) (hrs : rm.slots = ms)
    (hframes : rm.frames + 1 ≤ R.frames) (hlocals : W9 + (maxL + 11) + rm.locals ≤ R.locals)
    (hws : ∀ w ∈ ws, ∀ a' U, s.WarmedH U.vm → w.before a' U = true) (hcode : Cond.code y bytes maxL ret ∈ ws) (hinit : ∀ a' U, s.WarmedH U.vm → (Cond.initialized y.cls).before a' U = true) :
    vx_Back l R p e below s sargs y len W9 (PreOf R mc ms Pc) (PostOf Qc mc ms free) (vx_Post XC mc ms free) := by
  intro m meth c A g ig mk a X hg hsize hdg hW hn hp
  have h1 : (headSpec ws rm).pre.before a A.U = true := atoms_intro fun w hw => hws w hw _ _ X.warmed
  have h2 : (Cond.code y bytes maxL ret).before a A.U = true := hws _ hcode _ _ X.warmed
  have h3 : (Cond.initialized y.cls).before a A.U = true := hinit _ _ X.warmed
  have h4 : A.cells + (headSpec ws rm).room.cells ≤ R.cells := by rw [show (headSpec ws rm).room.cells = mc from hrc]; exact hp.1
  have h5 : A.slots + (headSpec ws rm).room.slots ≤ R.slots := by rw [show (headSpec ws rm).room.slots = ms from hrs]; exact hp.2.1
  have hPc : Pc a (A.U.calling g mk a) := hblind _ _ _ _ hp.2.2
  obtain ⟨U, Ls, c0, s0⟩ := A
  dsimp only [Pt.U, Pt.locs, Pt.cells, Pt.slots] at h1 h2 h3 h4 h5 X hn hPc ⊢
  obtain ⟨methY, cY, hmY, hcY, -, hlY, -, -, -, -⟩ := Cond.code_spec hn h2
  obtain ⟨kY, hkY, -⟩ := className_of_methodNamed hn
  have hinitY : kY.init = .initialized := Cond.initialized_spec (findClass_of_methodNamed hn) hkY h3
  have h : At U g.method c below := by rw [hg]; exact X.here
  have hlocals9 : W9 + (maxL + 11) + (headSpec ws rm).room.locals ≤ R.locals := hlocals
  have happ : (headSpec ws rm).appliesLoose y e.platform (U.calling g mk a) = true :=
    Spec.appliesLoose_calling (g := g) h hdg hn hkY hinitY
      (X.room_calling (g := g) (R' := (headSpec ws rm).room) hsize hmY hcY hframes (by rw [hlY]; omega) h4 h5) h1
  obtain ⟨mid, hmid⟩ := h.above
  have hfr : (U.setTop g).frames = (.java g :: mid) ++ below := by rw [State.frames_setTop' g h.top, hmid]; rfl
  obtain ⟨o, s₂, hsteps, -, hend, hq⟩ := Steps.callFree hM p X.admits X.cas X.clock (acts := []) hfr happ hPc trivial
  have hq' : vx_Q Qc XC mc ms free a (U.calling g mk a) o s₂ := hq
  rw [State.frames_setTop' g h.top] at hend
  obtain ⟨g₀, hg0⟩ := Option.isSome_iff_exists.mp h.top
  obtain ⟨r, hr⟩ := State.topJava?_eq_some.mp hg0
  have hr' : (({ U with heap := s₂.heap, slotsUsed := s₂.slotsUsed } : State).setVm s₂.vm).frames = .java g₀ :: r := hr
  rcases hq' with ⟨hqc, L, hfe, hL⟩ | ⟨q, rfl, E, ce, L, hx, hce, hcv, hcl, hW₂, hsm, hL⟩
  · obtain ⟨⟨v, rfl⟩, hW₂, e2, q2, q3, q4, q5, q6⟩ := id hfe
    have e3 : s₂ = ({ (U.calling g mk a).setFrames s₂.frames with heap := s₂.heap, slotsUsed := s₂.slotsUsed } : State).setVm s₂.vm := by
      have : s₂ = ({ s₂ with vm := (U.calling g mk a).vm } : State).setVm s₂.vm := rfl
      rw [e2] at this
      exact this
    obtain ⟨c₂, i₂, len₂, hc₂, hd₂, hf₂⟩ := hend
    have hW' : U.WarmedH s₂.vm := hW₂
    have hcc : c₂ = c := by
      have h1 : s₂.code? g.method = U.code? g.method := by
        rw [State.code?_eq, State.code?_eq, hW'.alike.method?]
      exact Option.some.inj (hc₂.symm.trans (h1.trans h.code))
    subst hcc
    have hlen : len₂ = len := by rw [hdg] at hd₂; cases hd₂; rfl
    subst hlen
    have hs₂ : s₂ = (({ U with heap := s₂.heap, slotsUsed := s₂.slotsUsed } : State).setVm s₂.vm).setTop { g with pc := g.pc + len₂, stack := v.toList ++ g.stack } := by
      refine e3.trans ?_
      rw [hf₂, State.calling_eq h.top, State.setFrames_setFrames, State.setTop_of_frames _ hr', hr]
      rfl
    have hsame : U.sameButNew ({ U with heap := s₂.heap, slotsUsed := s₂.slotsUsed } : State) L mc ms := by
      refine ⟨?_, q2, q3, q4, q5, q6⟩
      obtain ⟨t, ht, -⟩ := State.frames_cons hr
      show ({ U with heap := s₂.heap, slotsUsed := s₂.slotsUsed } : State) = { U.setFrames U.frames with heap := s₂.heap, slotsUsed := s₂.slotsUsed }
      rw [State.setFrames_self ht]
    subst hg
    refine Or.inl ⟨v, ⟨(({ U with heap := s₂.heap, slotsUsed := s₂.slotsUsed } : State).setVm s₂.vm), Ls ++ L, c0 + mc, s0 + ms⟩,
      ⟨X.admits, X.cas, X.clock, X.frames, X.room, X.hears, X.method, X.code, (X.here.setHeapUsed s₂.heap s₂.slotsUsed).setVm hW'.alike, X.tail, State.WarmedH.trans X.warmed hW', X.limits, X.bytes, X.same.trans (hsame.setVm s.vm)⟩,
      ⟨g, mk, s₂, L, rfl, rfl, hqc, rfl, hL, rfl, rfl⟩, ?_⟩
    show Steps p.tables e below _ ((({ U with heap := s₂.heap, slotsUsed := s₂.slotsUsed } : State).setVm s₂.vm).setTop { g with pc := g.pc + len₂, stack := v.toList ++ g.stack })
    rw [← hs₂]
    exact hsteps
  · obtain ⟨e2, q2, q3, q4, q5, q6⟩ := id hsm
    have e3 : s₂ = ({ (U.calling g mk a).setFrames s₂.frames with heap := s₂.heap, slotsUsed := s₂.slotsUsed } : State).setVm s₂.vm := by
      have : s₂ = ({ s₂ with vm := (U.calling g mk a).vm } : State).setVm s₂.vm := rfl
      rw [e2] at this
      exact this
    have hf₂ : s₂.frames = .throwing q :: .java g :: U.frames.tail := hend
    have hW' : U.WarmedH s₂.vm := hW₂
    have hs₂ : s₂ = ((({ U with heap := s₂.heap, slotsUsed := s₂.slotsUsed } : State).setVm s₂.vm).setTop g).pushFrame (.throwing q) := by
      refine e3.trans ?_
      rw [hf₂, State.calling_eq h.top, State.setFrames_setFrames, State.pushFrame, State.frames_setTop _ hr', State.setTop_of_frames _ hr', State.setFrames_setFrames, hr]
      rfl
    have hsame : U.sameButNew ({ U with heap := s₂.heap, slotsUsed := s₂.slotsUsed } : State) L mc ms := by
      refine ⟨?_, q2, q3, q4, q5, q6⟩
      obtain ⟨t, ht, -⟩ := State.frames_cons hr
      show ({ U with heap := s₂.heap, slotsUsed := s₂.slotsUsed } : State) = { U.setFrames U.frames with heap := s₂.heap, slotsUsed := s₂.slotsUsed }
      rw [State.setFrames_self ht]
    subst hg
    refine Or.inr ⟨q, ⟨(({ U with heap := s₂.heap, slotsUsed := s₂.slotsUsed } : State).setVm s₂.vm), Ls ++ L, c0 + mc, s0 + ms⟩,
      ⟨X.admits, X.cas, X.clock, X.frames, X.room, X.hears, X.method, X.code, (X.here.setHeapUsed s₂.heap s₂.slotsUsed).setVm hW'.alike, X.tail, State.WarmedH.trans X.warmed hW', X.limits, X.bytes, X.same.trans (hsame.setVm s.vm)⟩,
      ⟨g, mk, s₂, L, E, ce, rfl, rfl, hx, hce, hcv, hcl, rfl, hL, rfl, rfl⟩, ?_⟩
    show Steps p.tables e below _ (((({ U with heap := s₂.heap, slotsUsed := s₂.slotsUsed } : State).setVm s₂.vm).setTop g).pushFrame (.throwing q))
    rw [← hs₂]
    exact hsteps
end Payer
section Calls
variable {p : Program} {l : Launch} {e : Env} {R : Room} {s : State} {m : MethodId} {args : Array Value} {below : List Frame} {meth : Method} {c : Code} {T : State} {locs : List Loc} {cells slots : Nat}
theorem vx_callV (X : Stand p l e R s m args below meth c T locs cells slots) (hexec : p.tables.exec = Jvm.exec) {own C : String} {index : Nat} {y : MethodName} {bytes : ByteArray} {maxL : Nat} {ret : Option FieldType}
    (hown : s.vm.findClass own = some m.cls) (hlink : (Cond.methodLink own index y).before args s = true) (hinst : (Cond.instanceMethod y).before args s = true) (hsel : (Cond.selects C y y).before args s = true)
    (hcode : (Cond.code y bytes maxL ret).before args s = true) (hy : y.cls ≠ "java/lang/invoke/MethodHandle" ∧ y.cls ≠ "java/lang/invoke/VarHandle")
    {W9 : Nat} {Pre : Pt → Array Value → Prop} {Post : Pt → Array Value → Option Value → Pt → Prop} {PostX : Pt → Array Value → Addr → Pt → Prop} (hK : vx_Back l R p e below s args y 3 W9 Pre Post PostX)
    {b : Addr} {cellB : Cell} (hcell : T.heap[b]? = some cellB) (hobj : cellB.vm.isStatics = false) (hcls : s.vm.findClass C = some cellB.cls)
    {g : JFrame} (hg : g.method = m) (hsize : g.locals.size = c.maxLocals) {argsL rest : List Value} (hlen : ∀ sig, parseMethodDescriptor y.desc = some sig → argsL.length = sig.parameters.length)
    (hstack : g.stack = argsL.reverse ++ .ref b :: rest) (hW : 2 * g.monitorRoom + (rest.map fun v => v.category).sum ≤ W9) (hdg : decode c.code g.pc = .ok (.invokevirtual index, 3))
    (hpre : ∀ vm₁, s.WarmedH vm₁ → Pre ⟨T.setVm vm₁, locs, cells, slots⟩ (Value.ref b :: argsL).toArray) :
    (∃ (v : Option Value) (vm₁ : Vm) (B : Pt), s.WarmedH vm₁ ∧ Stand p l e R s m args below meth c B.U B.locs B.cells B.slots ∧ Post ⟨T.setVm vm₁, locs, cells, slots⟩ (Value.ref b :: argsL).toArray v B ∧
      ∀ target, Steps p.tables e below (B.U.setTop { g with pc := g.pc + 3, stack := v.toList ++ rest }) target → Steps p.tables e below (T.setTop g) target) ∨
    (∃ (q : Addr) (vm₁ : Vm) (B : Pt), s.WarmedH vm₁ ∧ Stand p l e R s m args below meth c B.U B.locs B.cells B.slots ∧ PostX ⟨T.setVm vm₁, locs, cells, slots⟩ (Value.ref b :: argsL).toArray q B ∧
      Steps p.tables e below (T.setTop g) ((B.U.setTop { g with stack := rest }).pushFrame (.throwing q))) := by
  obtain ⟨mk, methM, hnamed, hmethM, hstM, habM⟩ := Cond.instanceMethod_spec hinst
  obtain ⟨methM', cM, hmethM', -, -, -, -, -, -, hsigM⟩ := Cond.code_spec hnamed hcode
  cases hmethM.symm.trans hmethM'
  obtain ⟨c2, r2, m2, q1, q2, q3, q4, kP, hkP, hkPi⟩ := Cond.selects_spec hsel
  cases hcls.symm.trans q1
  cases (State.methodFound?_of_named hnamed hy).symm.trans q2
  cases hnamed.symm.trans q3
  have hselP : selectMethod e.platform s.vm cellB.cls mk = .method mk := by rw [Launch.admits_selectMethod X.admits]; exact q4
  obtain ⟨vm₁, X₁, hstep₁⟩ := X.invokevirtual hexec hown hlink hnamed hmethM hstM hkP hkPi hy (a := b) (cell := cellB) hcell
    (fun z h => by rw [h] at hobj; cases hobj) hselP hmethM habM hkP hkPi (g := g) hg (argsL := argsL) (rest := rest) (hlen _ hsigM) hstack hdg
  rcases hK m meth c ⟨T.setVm vm₁, locs, cells, slots⟩ { g with stack := rest } (.invokevirtual index) mk (Value.ref b :: argsL).toArray X₁ hg hsize hdg hW (X₁.named hnamed) (hpre vm₁ X₁.warmed) with ⟨v, B, X', hpost, hsteps⟩ | ⟨q, B, X', hpost, hsteps⟩
  · exact Or.inl ⟨v, vm₁, B, X₁.warmed, X', hpost, fun target h => hstep₁ _ fun acts => by rw [doInvoke_state]; exact hsteps.trans h⟩
  · exact Or.inr ⟨q, vm₁, B, X₁.warmed, X', hpost, hstep₁ _ fun acts => by rw [doInvoke_state]; exact hsteps⟩
theorem vx_callS (X : Stand p l e R s m args below meth c T locs cells slots) (hexec : p.tables.exec = Jvm.exec) {own : String} {index : Nat} {y : MethodName} {bytes : ByteArray} {maxL : Nat} {ret : Option FieldType}
    (hown : s.vm.findClass own = some m.cls) (hlink : (Cond.methodLink own index y).before args s = true) (hstat : (Cond.static y).before args s = true) (hinit : (Cond.initialized y.cls).before args s = true)
    (hcode : (Cond.code y bytes maxL ret).before args s = true) (hy : y.cls ≠ "java/lang/invoke/MethodHandle" ∧ y.cls ≠ "java/lang/invoke/VarHandle")
    {W9 : Nat} {Pre : Pt → Array Value → Prop} {Post : Pt → Array Value → Option Value → Pt → Prop} {PostX : Pt → Array Value → Addr → Pt → Prop} (hK : vx_Back l R p e below s args y 3 W9 Pre Post PostX)
    {g : JFrame} (hg : g.method = m) (hsize : g.locals.size = c.maxLocals) {argsL rest : List Value} (hlen : ∀ sig, parseMethodDescriptor y.desc = some sig → argsL.length = sig.parameters.length)
    (hstack : g.stack = argsL.reverse ++ rest) (hW : 2 * g.monitorRoom + (rest.map fun v => v.category).sum ≤ W9) (hdg : decode c.code g.pc = .ok (.invokestatic index, 3))
    (hpre : ∀ vm₁, s.WarmedH vm₁ → Pre ⟨T.setVm vm₁, locs, cells, slots⟩ argsL.toArray) :
    (∃ (v : Option Value) (vm₁ : Vm) (B : Pt), s.WarmedH vm₁ ∧ Stand p l e R s m args below meth c B.U B.locs B.cells B.slots ∧ Post ⟨T.setVm vm₁, locs, cells, slots⟩ argsL.toArray v B ∧
      ∀ target, Steps p.tables e below (B.U.setTop { g with pc := g.pc + 3, stack := v.toList ++ rest }) target → Steps p.tables e below (T.setTop g) target) ∨
    (∃ (q : Addr) (vm₁ : Vm) (B : Pt), s.WarmedH vm₁ ∧ Stand p l e R s m args below meth c B.U B.locs B.cells B.slots ∧ PostX ⟨T.setVm vm₁, locs, cells, slots⟩ argsL.toArray q B ∧
      Steps p.tables e below (T.setTop g) ((B.U.setTop { g with stack := rest }).pushFrame (.throwing q))) := by
  obtain ⟨mk, hnamed⟩ := Cond.code_named hcode
  obtain ⟨methM, cM, hmethM, -, -, -, -, -, -, hsigM⟩ := Cond.code_spec hnamed hcode
  have hstatic : methM.isStatic = true := Cond.static_spec hnamed hmethM hstat
  obtain ⟨kP, hkP, -⟩ := className_of_methodNamed hnamed
  have hinitP : kP.init = .initialized := Cond.initialized_spec (findClass_of_methodNamed hnamed) hkP hinit
  obtain ⟨vm₁, X₁, hstep₁⟩ := X.invokestatic hexec hown hlink hnamed hmethM hstatic hkP hinitP hy (g := g) hg (argsL := argsL) (rest := rest) (hlen _ hsigM) hstack hdg
  rcases hK m meth c ⟨T.setVm vm₁, locs, cells, slots⟩ { g with stack := rest } (.invokestatic index) mk argsL.toArray X₁ hg hsize hdg hW (X₁.named hnamed) (hpre vm₁ X₁.warmed) with ⟨v, B, X', hpost, hsteps⟩ | ⟨q, B, X', hpost, hsteps⟩
  · exact Or.inl ⟨v, vm₁, B, X₁.warmed, X', hpost, fun target h => hstep₁ _ fun acts => by rw [doInvoke_state]; exact hsteps.trans h⟩
  · exact Or.inr ⟨q, vm₁, B, X₁.warmed, X', hpost, hstep₁ _ fun acts => by rw [doInvoke_state]; exact hsteps⟩
end Calls
theorem vx_cls {s : State} {T : State} {vm₁ : Vm} {E : String} {k : ClassId} (hW : s.WarmedH vm₁) (h : (T.setVm vm₁).vm.findClass E = some k) : s.vm.findClass E = some k := by
  have h1 : vm₁.findClass E = some k := h
  rw [hW.alike.findClass] at h1
  exact h1
/-- the method's frame g, with q thrown over it -/
def vx_W (p : Program) (l : Launch) (e : Env) (R : Room) (s : State) (m : MethodId) (args : Array Value) (below : List Frame) (meth : Method) (c : Code) (H : Heap) (locs : List Loc) (cells slots : Nat) (Q : State → Prop) (g : JFrame) (q : Addr) : Prop :=
  ∀ T : State, T.heap = H → Stand p l e R s m args below meth c T locs cells slots → ∃ t, Steps p.tables e below ((T.setTop g).pushFrame (.throwing q)) t ∧ Q t
def vx_Run (p : Program) (l : Launch) (e : Env) (R : Room) (s : State) (m : MethodId) (args : Array Value) (below : List Frame) (meth : Method) (c : Code) (H : Heap) (locs : List Loc) (cells slots mc ms : Nat) (g : JFrame) (rest : List Value) (Qa : State → Outcome → State → Prop) (XC : String → State → State → Prop) (free : Addr → Prop) : Prop :=
  ∀ T : State, T.heap = H → Stand p l e R s m args below meth c T locs cells slots →
    (∃ (v : Option Value) (st₀ t T' : State) (L : List Loc), st₀.heap = H ∧ Stand p l e R s m args below meth c T' (locs ++ L) (cells + mc) (slots + ms) ∧ (∀ q ∈ L, free q.base) ∧ T'.heap = t.heap ∧ T'.vm = t.vm ∧ Qa st₀ (.returned v) t ∧
      Goes p e below T g T' { g with pc := g.pc + 3, stack := v.toList ++ rest }) ∨
    (∃ (q : Addr) (st₀ t T' : State) (L : List Loc) (E : String) (ce : Cell), st₀.heap = H ∧ Stand p l e R s m args below meth c T' (locs ++ L) (cells + mc) (slots + ms) ∧ (∀ z ∈ L, free z.base) ∧ T'.heap = t.heap ∧ T'.vm = t.vm ∧ XC E st₀ t ∧ t.heap[q]? = some ce ∧ ce.vm = .none ∧ s.vm.findClass E = some ce.cls ∧
      Steps p.tables e below (T.setTop g) ((T'.setTop { g with stack := rest }).pushFrame (.throwing q)))
def vx_X {S : Type} (px : S → Prop) (B : String → S → State → Prop) (A : Nat → Prop) : String → State → State → Prop := fun E st t => ∃ u : S, px u ∧ B E u t ∧ va_F A st t
section Runs
variable {p : Program} {l : Launch} {e : Env} {R : Room} {s : State} {m : MethodId} {args : Array Value} {below : List Frame} {meth : Method} {c : Code} {H : Heap} {locs : List Loc} {cells slots : Nat}
variable {y : MethodName} {bytes cc : ByteArray} {maxL nL mc ms n index : Nat} {ret : Option FieldType} {ws : List Cond} {rm : Room} {Pc : Array Value → State → Prop} {Qc : Array Value → State → Outcome → State → Prop} {XC : String → State → State → Prop} {free : Addr → Prop} {Ts : List Cond} {own C : String} {b : Addr} {As rest : List Value} {g : JFrame}
theorem vx_callBack (cb : CallB R s args own index y bytes maxL ret ws rm mc ms n) (hM : vx_Met l y ws rm Pc Qc XC mc ms free) (hbl : FrameBlind Pc) : vx_Back l R p e below s args y 3 8 (PreOf R mc ms Pc) (PostOf Qc mc ms free) (vx_Post XC mc ms free) := by
  obtain ⟨hrc, hrs, hfr, hlo, hws, hcw, -, hini, -⟩ := cb
  exact vx_back (bytes := bytes) (maxL := maxL) (ret := ret) hM hbl hrc hrs hfr hlo hws hcw (fun a' U hW => word_at hW (Or.inl (by first | rfl | simp [Cond.onTables, Cond.keeps, Cond.steady])) hini)
theorem vx_runV (S : CallFix p m c cc nL s args Ts own) (hM : vx_Met l y ws rm Pc Qc XC mc ms free) (cw : CallW R s args own C index y bytes maxL ret ws rm mc ms n) (hp : PreV s H C b Pc As)
    (hg : g.method = m) (hn : As.length = n) (hsize : g.locals.size = nL) (hstack : g.stack = As.reverse ++ .ref b :: rest) (hW : 2 * g.monitorRoom + (rest.map fun v => v.category).sum ≤ 8) (hdg : decode cc g.pc = .ok (.invokevirtual index, 3)) (hf : cells + mc ≤ R.cells ∧ slots + ms ≤ R.slots) :
    vx_Run p l e R s m args below meth c H locs cells slots mc ms g rest (Qc (Value.ref b :: As).toArray) XC free := by
  have hK : vx_Back l R p e below s args y 3 8 (PreOf R mc ms Pc) (PostOf Qc mc ms free) (vx_Post XC mc ms free) := vx_callBack cw.1 hM hp.1
  obtain ⟨⟨-, -, -, -, -, -, hcode, -, hy, hlen, hl⟩, hin, hse⟩ := cw
  obtain ⟨hx, hb, hml, ho, -⟩ := S
  obtain ⟨-, ⟨cellB, hcB, hoB, hclB⟩, hPc⟩ := hp
  intro T hT X
  rcases vx_callV X hx (C := C) (bytes := bytes) (maxL := maxL) (ret := ret) ho hl hin hse hcode hy hK (by rw [hT]; exact hcB) hoB hclB hg (hsize.trans hml.symm) (argsL := As) (rest := rest) (fun sig h => hn.trans (hlen sig h)) hstack hW (by rw [hb]; exact hdg)
    (fun vm₁ hW₁ => ⟨hf.1, hf.2, hPc (T.setVm vm₁) hT hW₁⟩) with ⟨v, vm₁, ⟨U', l2, c2, s2⟩, hW₁, X', ⟨g', mk, t, L, e1, e2, hq, h1, hL, h2, h3⟩, st⟩ | ⟨q, vm₁, ⟨U', l2, c2, s2⟩, hW₁, X', ⟨g', mk, t, L, E, ce, e1, e2, hq, hce, hcv, hcl, h1, hL, h2, h3⟩, st⟩
  · dsimp only [Pt.U, Pt.locs, Pt.cells, Pt.slots] at X' e1 e2 h1 h2 h3 st
    subst h1; subst h2; subst h3
    exact Or.inl ⟨v, (T.setVm vm₁).calling g' mk (Value.ref b :: As).toArray, t, U', L, hT, X', hL, e1, e2, hq, st⟩
  · dsimp only [Pt.U, Pt.locs, Pt.cells, Pt.slots] at X' e1 e2 h1 h2 h3 st hcl
    subst h1; subst h2; subst h3
    exact Or.inr ⟨q, (T.setVm vm₁).calling g' mk (Value.ref b :: As).toArray, t, U', L, E, ce, hT, X', hL, e1, e2, hq, hce, hcv, vx_cls hW₁ hcl, st⟩
theorem vx_runS (S : CallFix p m c cc nL s args Ts own) (hM : vx_Met l y ws rm Pc Qc XC mc ms free) (cw : CallB R s args own index y bytes maxL ret ws rm mc ms n ∧ (Cond.static y).before args s = true) (hp : PreS s H Pc As)
    (hg : g.method = m) (hn : As.length = n) (hsize : g.locals.size = nL) (hstack : g.stack = As.reverse ++ rest) (hW : 2 * g.monitorRoom + (rest.map fun v => v.category).sum ≤ 8) (hdg : decode cc g.pc = .ok (.invokestatic index, 3)) (hf : cells + mc ≤ R.cells ∧ slots + ms ≤ R.slots) :
    vx_Run p l e R s m args below meth c H locs cells slots mc ms g rest (Qc As.toArray) XC free := by
  have hK : vx_Back l R p e below s args y 3 8 (PreOf R mc ms Pc) (PostOf Qc mc ms free) (vx_Post XC mc ms free) := vx_callBack cw.1 hM hp.1
  obtain ⟨⟨-, -, -, -, -, -, hcode, hini, hy, hlen, hl⟩, hstt⟩ := cw
  obtain ⟨hx, hb, hml, ho, -⟩ := S
  intro T hT X
  rcases vx_callS X hx (bytes := bytes) (maxL := maxL) (ret := ret) ho hl hstt hini hcode hy hK hg (hsize.trans hml.symm) (argsL := As) (rest := rest) (fun sig h => hn.trans (hlen sig h)) hstack hW (by rw [hb]; exact hdg)
    (fun vm₁ hW₁ => ⟨hf.1, hf.2, hp.2 (T.setVm vm₁) hT hW₁⟩) with ⟨v, vm₁, ⟨U', l2, c2, s2⟩, hW₁, X', ⟨g', mk, t, L, e1, e2, hq, h1, hL, h2, h3⟩, st⟩ | ⟨q, vm₁, ⟨U', l2, c2, s2⟩, hW₁, X', ⟨g', mk, t, L, E, ce, e1, e2, hq, hce, hcv, hcl, h1, hL, h2, h3⟩, st⟩
  · dsimp only [Pt.U, Pt.locs, Pt.cells, Pt.slots] at X' e1 e2 h1 h2 h3 st
    subst h1; subst h2; subst h3
    exact Or.inl ⟨v, (T.setVm vm₁).calling g' mk As.toArray, t, U', L, hT, X', hL, e1, e2, hq, st⟩
  · dsimp only [Pt.U, Pt.locs, Pt.cells, Pt.slots] at X' e1 e2 h1 h2 h3 st hcl
    subst h1; subst h2; subst h3
    exact Or.inr ⟨q, (T.setVm vm₁).calling g' mk As.toArray, t, U', L, E, ce, hT, X', hL, e1, e2, hq, hce, hcv, vx_cls hW₁ hcl, st⟩
end Runs
section Rows
variable {p : Program} {l : Launch} {e : Env} {R : Room} {s : State} {m : MethodId} {args : Array Value} {below : List Frame} {meth : Method} {c : Code} {H : Heap} {locs : List Loc} {cells slots : Nat} {Q : State → Prop}
variable {mc ms : Nat} {free : Addr → Prop} {A0 A1 : Nat → Prop} {H0 : Heap} {a : Array Value} {pc : Nat} {ls : Array Slot} {st0 rest : List Value}
theorem vx_keep {st₀ t T' : State} {L : List Loc} (h0 : st₀.heap = H) (e1 : T'.heap = t.heap) (hS : va_S A0 H0 H locs) (hA : ∀ q, q < H.size → A1 q → A0 q) (hf : ∀ q, free q → A0 q) (hL : ∀ q ∈ L, free q.base) (hF : va_F A1 st₀ t) :
    H.size ≤ T'.heap.size ∧ (∀ q : Nat, q < H.size → ¬ A1 q → T'.heap[q]? = H[q]?) ∧ va_S A0 H0 T'.heap (locs ++ L) := by
  obtain ⟨hz, hk⟩ := hF
  rw [h0] at hz hk
  exact ⟨by rw [e1]; exact hz, fun q h1 h2 => by rw [e1]; exact hk q h1 h2,
    ⟨Nat.le_trans hS.1 (by rw [e1]; exact hz), fun q h1 h2 => by rw [e1, hk q (Nat.lt_of_lt_of_le h1 hS.1) (fun z => h2 (hA q (Nat.lt_of_lt_of_le h1 hS.1) z))]; exact hS.2.1 q h1 h2, fun q hq => by
      rcases List.mem_append.mp hq with h | h
      · exact hS.2.2 q h
      · exact hf _ (hL q h)⟩⟩
theorem vx_calli {S SX : Type} {post : Int32 → S → Prop} {px : SX → Prop} {B : S → State → Prop} {BX : String → SX → State → Prop} {AX : Nat → Prop} (hr : vx_Run p l e R s m args below meth c H locs cells slots mc ms (F0 m pc ls st0) rest (va_Qi post B A1 a) (vx_X px BX AX) free) (hS : va_S A0 H0 H locs) (hA : ∀ q, q < H.size → A1 q → A0 q) (hf : ∀ q, free q → A0 q) (hAX : ∀ q, q < H.size → AX q → A0 q)
    (kx : ∀ (E : String) (ce : Cell) (q9 : Addr) (u : SX) (t : State) (H1 : Heap) (locs1 : List Loc), t.heap = H1 → s.vm.Alike t.vm → px u → BX E u t → H.size ≤ H1.size → (∀ q : Nat, q < H.size → ¬ AX q → H1[q]? = H[q]?) → va_S A0 H0 H1 locs1 → H1[q9]? = some ce → ce.vm = .none → s.vm.findClass E = some ce.cls → vx_W p l e R s m args below meth c H1 locs1 (cells + mc) (slots + ms) Q (F0 m pc ls rest) q9)
    (kk : ∀ (r : Int32) (u : S) (t : State) (H1 : Heap) (locs1 : List Loc), t.heap = H1 → s.vm.Alike t.vm → post r u → B u t → H.size ≤ H1.size → (∀ q : Nat, q < H.size → ¬ A1 q → H1[q]? = H[q]?) → va_S A0 H0 H1 locs1 → W p l e R s m args below meth c H1 locs1 (cells + mc) (slots + ms) Q (F0 m (pc + 3) ls (.int r :: rest))) : W p l e R s m args below meth c H locs cells slots Q (F0 m pc ls st0) := by
  intro T hT X
  rcases hr T hT X with ⟨v, st₀, t, T', L, h0, X', hL, e1, e2, ⟨⟨r, u, hv, hp, hb⟩, hF⟩, st⟩ | ⟨q, st₀, t, T', L, E, ce, h0, X', hL, e1, e2, ⟨u, hp, hb, hF⟩, hce, hcv, hcl, st⟩
  · cases hv
    obtain ⟨k1, k2, k3⟩ := vx_keep h0 e1 hS hA hf hL hF
    obtain ⟨t2, a1, b1⟩ := kk r u t T'.heap (locs ++ L) e1.symm (by rw [← e2]; exact X'.warmed.alike) hp hb k1 k2 k3 T' rfl X'
    exact ⟨t2, st t2 a1, b1⟩
  · obtain ⟨k1, k2, k3⟩ := vx_keep h0 e1 hS hAX hf hL hF
    obtain ⟨t2, a1, b1⟩ := kx E ce q u t T'.heap (locs ++ L) e1.symm (by rw [← e2]; exact X'.warmed.alike) hp hb k1 k2 k3 (by rw [e1]; exact hce) hcv hcl T' rfl X'
    exact ⟨t2, st.trans a1, b1⟩
theorem vx_calll {S SX : Type} {post : Int64 → S → Prop} {px : SX → Prop} {B : S → State → Prop} {BX : String → SX → State → Prop} {AX : Nat → Prop} (hr : vx_Run p l e R s m args below meth c H locs cells slots mc ms (F0 m pc ls st0) rest (va_Ql post B A1 a) (vx_X px BX AX) free) (hS : va_S A0 H0 H locs) (hA : ∀ q, q < H.size → A1 q → A0 q) (hf : ∀ q, free q → A0 q) (hAX : ∀ q, q < H.size → AX q → A0 q)
    (kx : ∀ (E : String) (ce : Cell) (q9 : Addr) (u : SX) (t : State) (H1 : Heap) (locs1 : List Loc), t.heap = H1 → s.vm.Alike t.vm → px u → BX E u t → H.size ≤ H1.size → (∀ q : Nat, q < H.size → ¬ AX q → H1[q]? = H[q]?) → va_S A0 H0 H1 locs1 → H1[q9]? = some ce → ce.vm = .none → s.vm.findClass E = some ce.cls → vx_W p l e R s m args below meth c H1 locs1 (cells + mc) (slots + ms) Q (F0 m pc ls rest) q9)
    (kk : ∀ (r : Int64) (u : S) (t : State) (H1 : Heap) (locs1 : List Loc), t.heap = H1 → s.vm.Alike t.vm → post r u → B u t → H.size ≤ H1.size → (∀ q : Nat, q < H.size → ¬ A1 q → H1[q]? = H[q]?) → va_S A0 H0 H1 locs1 → W p l e R s m args below meth c H1 locs1 (cells + mc) (slots + ms) Q (F0 m (pc + 3) ls (.long r :: rest))) : W p l e R s m args below meth c H locs cells slots Q (F0 m pc ls st0) := by
  intro T hT X
  rcases hr T hT X with ⟨v, st₀, t, T', L, h0, X', hL, e1, e2, ⟨⟨r, u, hv, hp, hb⟩, hF⟩, st⟩ | ⟨q, st₀, t, T', L, E, ce, h0, X', hL, e1, e2, ⟨u, hp, hb, hF⟩, hce, hcv, hcl, st⟩
  · cases hv
    obtain ⟨k1, k2, k3⟩ := vx_keep h0 e1 hS hA hf hL hF
    obtain ⟨t2, a1, b1⟩ := kk r u t T'.heap (locs ++ L) e1.symm (by rw [← e2]; exact X'.warmed.alike) hp hb k1 k2 k3 T' rfl X'
    exact ⟨t2, st t2 a1, b1⟩
  · obtain ⟨k1, k2, k3⟩ := vx_keep h0 e1 hS hAX hf hL hF
    obtain ⟨t2, a1, b1⟩ := kx E ce q u t T'.heap (locs ++ L) e1.symm (by rw [← e2]; exact X'.warmed.alike) hp hb k1 k2 k3 (by rw [e1]; exact hce) hcv hcl T' rfl X'
    exact ⟨t2, st.trans a1, b1⟩
theorem vx_callf {S SX : Type} {post : UInt32 → S → Prop} {px : SX → Prop} {B : S → State → Prop} {BX : String → SX → State → Prop} {AX : Nat → Prop} (hr : vx_Run p l e R s m args below meth c H locs cells slots mc ms (F0 m pc ls st0) rest (va_Qf post B A1 a) (vx_X px BX AX) free) (hS : va_S A0 H0 H locs) (hA : ∀ q, q < H.size → A1 q → A0 q) (hf : ∀ q, free q → A0 q) (hAX : ∀ q, q < H.size → AX q → A0 q)
    (kx : ∀ (E : String) (ce : Cell) (q9 : Addr) (u : SX) (t : State) (H1 : Heap) (locs1 : List Loc), t.heap = H1 → s.vm.Alike t.vm → px u → BX E u t → H.size ≤ H1.size → (∀ q : Nat, q < H.size → ¬ AX q → H1[q]? = H[q]?) → va_S A0 H0 H1 locs1 → H1[q9]? = some ce → ce.vm = .none → s.vm.findClass E = some ce.cls → vx_W p l e R s m args below meth c H1 locs1 (cells + mc) (slots + ms) Q (F0 m pc ls rest) q9)
    (kk : ∀ (r : UInt32) (u : S) (t : State) (H1 : Heap) (locs1 : List Loc), t.heap = H1 → s.vm.Alike t.vm → post r u → B u t → H.size ≤ H1.size → (∀ q : Nat, q < H.size → ¬ A1 q → H1[q]? = H[q]?) → va_S A0 H0 H1 locs1 → W p l e R s m args below meth c H1 locs1 (cells + mc) (slots + ms) Q (F0 m (pc + 3) ls (.float r :: rest))) : W p l e R s m args below meth c H locs cells slots Q (F0 m pc ls st0) := by
  intro T hT X
  rcases hr T hT X with ⟨v, st₀, t, T', L, h0, X', hL, e1, e2, ⟨⟨r, u, hv, hp, hb⟩, hF⟩, st⟩ | ⟨q, st₀, t, T', L, E, ce, h0, X', hL, e1, e2, ⟨u, hp, hb, hF⟩, hce, hcv, hcl, st⟩
  · cases hv
    obtain ⟨k1, k2, k3⟩ := vx_keep h0 e1 hS hA hf hL hF
    obtain ⟨t2, a1, b1⟩ := kk r u t T'.heap (locs ++ L) e1.symm (by rw [← e2]; exact X'.warmed.alike) hp hb k1 k2 k3 T' rfl X'
    exact ⟨t2, st t2 a1, b1⟩
  · obtain ⟨k1, k2, k3⟩ := vx_keep h0 e1 hS hAX hf hL hF
    obtain ⟨t2, a1, b1⟩ := kx E ce q u t T'.heap (locs ++ L) e1.symm (by rw [← e2]; exact X'.warmed.alike) hp hb k1 k2 k3 (by rw [e1]; exact hce) hcv hcl T' rfl X'
    exact ⟨t2, st.trans a1, b1⟩
theorem vx_calld {S SX : Type} {post : UInt64 → S → Prop} {px : SX → Prop} {B : S → State → Prop} {BX : String → SX → State → Prop} {AX : Nat → Prop} (hr : vx_Run p l e R s m args below meth c H locs cells slots mc ms (F0 m pc ls st0) rest (va_Qd post B A1 a) (vx_X px BX AX) free) (hS : va_S A0 H0 H locs) (hA : ∀ q, q < H.size → A1 q → A0 q) (hf : ∀ q, free q → A0 q) (hAX : ∀ q, q < H.size → AX q → A0 q)
    (kx : ∀ (E : String) (ce : Cell) (q9 : Addr) (u : SX) (t : State) (H1 : Heap) (locs1 : List Loc), t.heap = H1 → s.vm.Alike t.vm → px u → BX E u t → H.size ≤ H1.size → (∀ q : Nat, q < H.size → ¬ AX q → H1[q]? = H[q]?) → va_S A0 H0 H1 locs1 → H1[q9]? = some ce → ce.vm = .none → s.vm.findClass E = some ce.cls → vx_W p l e R s m args below meth c H1 locs1 (cells + mc) (slots + ms) Q (F0 m pc ls rest) q9)
    (kk : ∀ (r : UInt64) (u : S) (t : State) (H1 : Heap) (locs1 : List Loc), t.heap = H1 → s.vm.Alike t.vm → post r u → B u t → H.size ≤ H1.size → (∀ q : Nat, q < H.size → ¬ A1 q → H1[q]? = H[q]?) → va_S A0 H0 H1 locs1 → W p l e R s m args below meth c H1 locs1 (cells + mc) (slots + ms) Q (F0 m (pc + 3) ls (.double r :: rest))) : W p l e R s m args below meth c H locs cells slots Q (F0 m pc ls st0) := by
  intro T hT X
  rcases hr T hT X with ⟨v, st₀, t, T', L, h0, X', hL, e1, e2, ⟨⟨r, u, hv, hp, hb⟩, hF⟩, st⟩ | ⟨q, st₀, t, T', L, E, ce, h0, X', hL, e1, e2, ⟨u, hp, hb, hF⟩, hce, hcv, hcl, st⟩
  · cases hv
    obtain ⟨k1, k2, k3⟩ := vx_keep h0 e1 hS hA hf hL hF
    obtain ⟨t2, a1, b1⟩ := kk r u t T'.heap (locs ++ L) e1.symm (by rw [← e2]; exact X'.warmed.alike) hp hb k1 k2 k3 T' rfl X'
    exact ⟨t2, st t2 a1, b1⟩
  · obtain ⟨k1, k2, k3⟩ := vx_keep h0 e1 hS hAX hf hL hF
    obtain ⟨t2, a1, b1⟩ := kx E ce q u t T'.heap (locs ++ L) e1.symm (by rw [← e2]; exact X'.warmed.alike) hp hb k1 k2 k3 (by rw [e1]; exact hce) hcv hcl T' rfl X'
    exact ⟨t2, st.trans a1, b1⟩
theorem vx_callv {S SX : Type} {post : S → Prop} {px : SX → Prop} {B : S → State → Prop} {BX : String → SX → State → Prop} {AX : Nat → Prop} (hr : vx_Run p l e R s m args below meth c H locs cells slots mc ms (F0 m pc ls st0) rest (va_Qv post B A1 a) (vx_X px BX AX) free) (hS : va_S A0 H0 H locs) (hA : ∀ q, q < H.size → A1 q → A0 q) (hf : ∀ q, free q → A0 q) (hAX : ∀ q, q < H.size → AX q → A0 q)
    (kx : ∀ (E : String) (ce : Cell) (q9 : Addr) (u : SX) (t : State) (H1 : Heap) (locs1 : List Loc), t.heap = H1 → s.vm.Alike t.vm → px u → BX E u t → H.size ≤ H1.size → (∀ q : Nat, q < H.size → ¬ AX q → H1[q]? = H[q]?) → va_S A0 H0 H1 locs1 → H1[q9]? = some ce → ce.vm = .none → s.vm.findClass E = some ce.cls → vx_W p l e R s m args below meth c H1 locs1 (cells + mc) (slots + ms) Q (F0 m pc ls rest) q9)
    (kk : ∀ (u : S) (t : State) (H1 : Heap) (locs1 : List Loc), t.heap = H1 → s.vm.Alike t.vm → post u → B u t → H.size ≤ H1.size → (∀ q : Nat, q < H.size → ¬ A1 q → H1[q]? = H[q]?) → va_S A0 H0 H1 locs1 → W p l e R s m args below meth c H1 locs1 (cells + mc) (slots + ms) Q (F0 m (pc + 3) ls (rest))) : W p l e R s m args below meth c H locs cells slots Q (F0 m pc ls st0) := by
  intro T hT X
  rcases hr T hT X with ⟨v, st₀, t, T', L, h0, X', hL, e1, e2, ⟨⟨u, hv, hp, hb⟩, hF⟩, st⟩ | ⟨q, st₀, t, T', L, E, ce, h0, X', hL, e1, e2, ⟨u, hp, hb, hF⟩, hce, hcv, hcl, st⟩
  · cases hv
    obtain ⟨k1, k2, k3⟩ := vx_keep h0 e1 hS hA hf hL hF
    obtain ⟨t2, a1, b1⟩ := kk u t T'.heap (locs ++ L) e1.symm (by rw [← e2]; exact X'.warmed.alike) hp hb k1 k2 k3 T' rfl X'
    exact ⟨t2, st t2 a1, b1⟩
  · obtain ⟨k1, k2, k3⟩ := vx_keep h0 e1 hS hAX hf hL hF
    obtain ⟨t2, a1, b1⟩ := kx E ce q u t T'.heap (locs ++ L) e1.symm (by rw [← e2]; exact X'.warmed.alike) hp hb k1 k2 k3 (by rw [e1]; exact hce) hcv hcl T' rfl X'
    exact ⟨t2, st.trans a1, b1⟩
/-- caught by the row x of this method's table; the rows ahead don't take it -/
theorem vx_catch {own name : String} {E : String} {ce : Cell} {q : Addr} (hown : s.vm.findClass own = some m.cls) (pre : List ExceptionTableEntry) (x : ExceptionTableEntry) (suf : List ExceptionTableEntry) (hsplit : c.exceptionTable.toList = pre ++ x :: suf)
    (hpass : ∀ z ∈ pre, covers z pc = false ∨ (z.catchType ≠ 0 ∧ ∃ nm : String, (Cond.classLink own z.catchType nm).before args s = true ∧ va_Nc E nm s)) (hx : covers x pc = true) (h0 : x.catchType ≠ 0)
    (hlink : (Cond.classLink own x.catchType name).before args s = true) (hcast : (Cond.castable E name).before args s = true) (hcell : H[q]? = some ce) (hv : ce.vm = .none) (hcl : s.vm.findClass E = some ce.cls)
    (kk : W p l e R s m args below meth c H locs cells slots Q (F0 m x.handlerPc ls [.ref q])) : vx_W p l e R s m args below meth c H locs cells slots Q (F0 m pc ls rest) q := by
  intro T hT X
  have hpl : e.platform.magicAccessors = ({} : Platform).magicAccessors := by rw [X.admits.platform]
  obtain ⟨c3, c4, hc3, hc4, hasg⟩ := Cond.castable_spec hcast
  cases Option.some.inj (hc3.symm.trans hcl)
  obtain ⟨c5, hc5, hcl5⟩ := Cond.classLink_spec hown hlink e.platform hpl
  cases Option.some.inj (hc4.symm.trans hc5)
  obtain ⟨vm', X', st⟩ := X.thenCaughtThrough q (g := F0 m pc ls rest) rfl (Steps.refl _) (by rw [hT]; exact hcell) (by rw [hv]; rfl) (by obtain ⟨k9, h9, -⟩ := Vm.findClass_spec hcl; exact ⟨k9, h9⟩) pre x suf hsplit
    (fun z hz => by
      rcases hpass z hz with h | ⟨hz0, nm, hl1, hn1⟩
      · exact Or.inl h
      · obtain ⟨c6, hc6, hcl6⟩ := Cond.classLink_spec hown hl1 e.platform hpl
        obtain ⟨a8, b8, h1, h2, h3⟩ := hn1
        cases Option.some.inj (h1.symm.trans hcl)
        cases Option.some.inj (h2.symm.trans hc6)
        exact Or.inr ⟨hz0, _, hcl6, h3⟩) hx (Or.inr ⟨h0, c4, hcl5, hasg⟩)
  obtain ⟨t, a1, b1⟩ := kk (T.setVm vm') hT X'
  exact ⟨t, st.trans a1, b1⟩
end Rows
section Ends
variable {p : Program} {l : Launch} {e : Env} {R : Room} {s : State} {m : MethodId} {args : Array Value} {below : List Frame} {meth : Method} {c : Code} {H : Heap} {locs : List Loc} {cells slots : Nat} {Q : State → Prop}
variable {mc ms : Nat} {free : Addr → Prop} {A0 A1 : Nat → Prop} {H0 : Heap} {a : Array Value} {ls : Array Slot} {st0 rest : List Value}
variable {Qc : Array Value → State → Outcome → State → Prop} {XC : String → State → State → Prop}
/-- what a body that may throw owes at its end -/
def vx_MQ (below : List Frame) (Qc : Array Value → State → Outcome → State → Prop) (XC : String → State → State → Prop) (a : Array Value) (s : State) (mc ms : Nat) (free : Addr → Prop) : State → Prop := fun t =>
  ∃ o, t.status = .running ∧ Ended t below o ∧ vx_Q Qc XC mc ms free a s o t
theorem vx_ret {g : JFrame} {mc ms : Nat} (k : W p l e R s m args below meth c H locs cells slots (MQ below Qc args s mc ms free) g) : W p l e R s m args below meth c H locs cells slots (vx_MQ below Qc XC args s mc ms free) g := by
  intro T hT X
  obtain ⟨t, a1, o, b1, b2, b3, b4⟩ := k T hT X
  exact ⟨t, a1, o, b1, b2, Or.inl ⟨b3, b4⟩⟩
/-- not caught here: it goes on to the caller -/
theorem vx_widen {g : JFrame} {q : Addr} {k n : Nat} (h1 : cells ≤ k) (h2 : slots ≤ n) (kk : vx_W p l e R s m args below meth c H locs k n Q g q) : vx_W p l e R s m args below meth c H locs cells slots Q g q := fun T hT X => kk T hT (stand_widen X h1 h2)
theorem vx_out {pc : Nat} {E : String} {ce : Cell} {q : Addr} {mc ms : Nat} (hout : ∀ x ∈ c.exceptionTable.toList, covers x pc = false) (hlocks : meth.locks = false) (hcell : H[q]? = some ce) (hv : ce.vm = .none) (hcl : s.vm.findClass E = some ce.cls)
    (hx : ∀ t : State, t.heap = H → s.vm.Alike t.vm → XC E s t) (hf : ∀ z ∈ locs, free z.base) (hc : cells ≤ mc) (hs : slots ≤ ms) :
    vx_W p l e R s m args below meth c H locs cells slots (vx_MQ below Qc XC args s mc ms free) (F0 m pc ls rest) q := by
  intro T hT X
  obtain ⟨st1, hrun, hend, hW, hsm⟩ := X.leaveThrown q (g := F0 m pc ls rest) rfl rfl rfl hout hlocks
  have hcell9 : (T.setFrames (.throwing q :: below)).heap[q]? = some ce := by
    show T.heap[q]? = some ce
    rw [hT]; exact hcell
  exact ⟨_, st1, .threw q, hrun, hend, Or.inr ⟨q, rfl, E, ce, locs, hx _ hT hW.alike, hcell9, hv, hcl, hW, hsm.mono hc hs, hf⟩⟩
theorem vx_frame {U : State} {k n : Nat} (h : s.sameButNew ({ U with vm := s.vm } : State) locs k n) : s.heap.size ≤ U.heap.size ∧ ∀ q : Nat, q < s.heap.size → (∀ z ∈ locs, z.base ≠ q) → U.heap[q]? = s.heap[q]? := by
  obtain ⟨-, h2, -, -, -, h6⟩ := h
  refine ⟨h2, fun q hq hz => ?_⟩
  obtain ⟨c9, e1, e2, e3, e4⟩ := h6 q _ (Array.getElem?_eq_getElem hq)
  have hs : c9.slots = (s.heap[q]).slots := Array.ext_getElem? fun i => e4 i fun hm => hz _ hm rfl
  have h9 : c9 = s.heap[q] := by
    rw [hs] at e2
    exact e2
  have e5 : U.heap[q]? = some c9 := e1
  rw [e5, h9, Array.getElem?_eq_getElem hq]
/-- the words of a throw but the four that speak of the heap -/
def vx_no (w : Cond) : Bool := decide (w ≠ .isRef (.static Bundle.tN "UNASSIGNED_STACK" Bundle.steD)) && decide (w ≠ .isRef (.static Bundle.tN "SUPPRESSED_SENTINEL" Bundle.listD)) && decide (w ≠ .laysStatic Bundle.tN "UNASSIGNED_STACK" Bundle.steD) && decide (w ≠ .laysStatic Bundle.tN "SUPPRESSED_SENTINEL" Bundle.listD)
def vx_at0 (own : String) (ic : Nat) (X : String) (names : List String) : List Cond := (Bundle.ownAtoms0 own ic X names).filter vx_no
def vx_atS (own : String) (ic : Nat) (X : String) (names : List String) : List Cond := (Bundle.ownAtoms own ic X names).filter vx_no
/-- a word that the tables alone decide, or a good one -/
def vx_ot (w : Cond) : Bool := w.onTables || goodWord w
theorem vx_ot_at {args a' : Array Value} {s U : State} {w : Cond} (hW : s.WarmedH U.vm) (hvm : s.vm = U.vm) (hg : vx_ot w = true) (h : w.before args s = true) : w.before a' U = true := by
  simp only [vx_ot, Bool.or_eq_true] at hg
  rcases hg with hg | hg
  · exact va_tabs hg hvm h
  · exact word_at hW (good_of_word hg) h
/-- a list's words: the good ones out of the method's own list, the others by premises of their own -/
theorem vx_hat {args : Array Value} {s : State} {L B : List Cond} (h1 : ∀ w ∈ L.filter goodWord, w.before args s = true) (h2 : ∀ w ∈ L.filter (fun w => !goodWord w), w ∈ B) (h3 : ∀ w ∈ B, w.before args s = true) : ∀ w ∈ L, w.before args s = true := by
  intro w hw
  by_cases g : goodWord w = true
  · exact h1 w (List.mem_filter.mpr ⟨hw, g⟩)
  · refine h3 w (h2 w (List.mem_filter.mpr ⟨hw, ?_⟩))
    show (!goodWord w) = true
    cases hgw : goodWord w
    · rfl
    · exact absurd hgw g
theorem vx_c {args : Array Value} {s : State} {w : Cond} {B : List Cond} (h : w.before args s = true) (t : ∀ w ∈ B, w.before args s = true) : ∀ w' ∈ w :: B, w'.before args s = true := fun w' h' => (List.mem_cons.mp h').elim (fun e => by rw [e]; exact h) (t w')
theorem vx_n {args : Array Value} {s : State} : ∀ w ∈ ([] : List Cond), w.before args s = true := fun _ h => nomatch h
theorem vx_own {args : Array Value} {s : State} {L : List Cond} (h1 : ∀ w ∈ L.filter vx_no, w.before args s = true)
    (hU : (Cond.isRef (.static Bundle.tN "UNASSIGNED_STACK" Bundle.steD)).before args s = true) (hN : (Cond.isRef (.static Bundle.tN "SUPPRESSED_SENTINEL" Bundle.listD)).before args s = true)
    (lU : (Cond.laysStatic Bundle.tN "UNASSIGNED_STACK" Bundle.steD).before args s = true) (lN : (Cond.laysStatic Bundle.tN "SUPPRESSED_SENTINEL" Bundle.listD).before args s = true) : ∀ w ∈ L, w.before args s = true := by
  intro w hw
  by_cases e1 : w = .isRef (.static Bundle.tN "UNASSIGNED_STACK" Bundle.steD)
  · rw [e1]; exact hU
  · by_cases e2 : w = .isRef (.static Bundle.tN "SUPPRESSED_SENTINEL" Bundle.listD)
    · rw [e2]; exact hN
    · by_cases e3 : w = .laysStatic Bundle.tN "UNASSIGNED_STACK" Bundle.steD
      · rw [e3]; exact lU
      · by_cases e4 : w = .laysStatic Bundle.tN "SUPPRESSED_SENTINEL" Bundle.listD
        · rw [e4]; exact lN
        · exact h1 w (List.mem_filter.mpr ⟨hw, by unfold vx_no; rw [decide_eq_true e1, decide_eq_true e2, decide_eq_true e3, decide_eq_true e4]; rfl⟩)
/-- where a static field lies, its class's statics cell in H -/
def vx_L (C n d : String) (A : Nat → Prop) (U : State) (H : Heap) : Prop := ∃ (c : ClassId) (k : Class) (i : Nat) (f : Field) (a : Nat) (cell : Cell), U.vm.findClass C = some c ∧ U.fieldFound? C n d = some (c, k, i, f) ∧ f.isStatic = true ∧ k.statics = some a ∧ H[a]? = some cell ∧ cell.vm.isStatics = true ∧ cell.cls = c ∧ f.slot < cell.slots.size ∧ k.staticTypes[f.slot]? = some f.type ∧ ¬ A a
theorem vx_L.moved {C n d : String} {A : Nat → Prop} {u U : State} {H : Heap} (hvm : u.vm.Alike U.vm) (h : vx_L C n d A u H) : vx_L C n d A U H := by
  obtain ⟨c, k, i, f, a, cell, h1, h2, h3, h4, h5, h6, h7, h8, h9, h10⟩ := h
  obtain ⟨k', hi', he⟩ := State.fieldFound?_setVm hvm h2
  exact ⟨c, k', i, f, a, cell, by rw [hvm.findClass]; exact h1, hi', h3, by rw [he]; exact h4, h5, h6, h7, h8, by rw [he]; exact h9, h10⟩
theorem vx_L.kept {C n d : String} {A : Nat → Prop} {U : State} {H H1 : Heap} (h : vx_L C n d A U H) (hq : ∀ a : Nat, a < H.size → ¬ A a → H1[a]? = H[a]?) : vx_L C n d A U H1 := by
  obtain ⟨c, k, i, f, a, cell, h1, h2, h3, h4, h5, h6, h7, h8, h9, h10⟩ := h
  exact ⟨c, k, i, f, a, cell, h1, h2, h3, h4, by rw [hq a (Array.getElem?_eq_some_iff.mp h5).1 h10]; exact h5, h6, h7, h8, h9, h10⟩
theorem vx_L.narrow {C n d : String} {A B : Nat → Prop} {U : State} {H : Heap} (h : vx_L C n d A U H) (hAB : ∀ q, B q → A q) : vx_L C n d B U H := by
  obtain ⟨c, k, i, f, a, cell, h1, h2, h3, h4, h5, h6, h7, h8, h9, h10⟩ := h
  exact ⟨c, k, i, f, a, cell, h1, h2, h3, h4, h5, h6, h7, h8, h9, fun z => h10 (hAB _ z)⟩
theorem vx_L.word {C n d : String} {A : Nat → Prop} {s : State} {args : Array Value} (h : vx_L C n d A s s.heap) : (Cond.laysStatic C n d).before args s = true := by
  obtain ⟨c, k, i, f, a, cell, h1, h2, h3, h4, h5, h6, h7, h8, h9, -⟩ := h
  show (Cond.laysStatic C n d).holds args s none s [] = true
  exact Cond.laysStatic_of h1 h2 h3 h4 h5 h6 h7 h8 h9
/-- .. and what it holds: null or some reference -/
def vx_Zq (C n d : String) (A : Nat → Prop) (U : State) (H : Heap) : Prop := va_Zq C n d A U H ∧ vx_L C n d A U H
theorem vx_Zq.moved {C n d : String} {A : Nat → Prop} {u U : State} {H : Heap} (hvm : u.vm.Alike U.vm) (h : vx_Zq C n d A u H) : vx_Zq C n d A U H := ⟨va_Zq.moved hvm h.1, vx_L.moved hvm h.2⟩
theorem vx_Zq.kept {C n d : String} {A : Nat → Prop} {U : State} {H H1 : Heap} (h : vx_Zq C n d A U H) (hq : ∀ a : Nat, a < H.size → ¬ A a → H1[a]? = H[a]?) : vx_Zq C n d A U H1 := ⟨va_Zq.kept h.1 hq, vx_L.kept h.2 hq⟩
theorem vx_Zq.narrow {C n d : String} {A B : Nat → Prop} {U : State} {H : Heap} (h : vx_Zq C n d A U H) (hAB : ∀ q, B q → A q) : vx_Zq C n d B U H := ⟨va_Zq.narrow h.1 hAB, vx_L.narrow h.2 hAB⟩
theorem vx_Zqof {args : Array Value} {s : State} {C n d : String} {A : Nat → Prop} (hl : (Cond.laysStatic C n d).before args s = true) (hini : (Cond.initialized C).before args s = true) (h : (Cond.isRef (.static C n d)).before args s = true) (hA : ∀ a : Nat, a < s.heap.size → ¬ A a) : vx_Zq C n d A s s.heap := by
  refine ⟨va_Zqof hl hini h hA, ?_⟩
  obtain ⟨c, k, i, f, a, cell, h1, h2, h3, h4, h5, h6, h7, h8, h9⟩ := Cond.laysStatic_spec hl
  exact ⟨c, k, i, f, a, cell, h1, h2, h3, h4, h5, h6, h7, h8, h9, hA a (Array.getElem?_eq_some_iff.mp h5).1⟩
theorem vx_isRef {C n d : String} {v : Value} {A : Nat → Prop} {s : State} {args : Array Value} (h : va_Z C n d v A s s.heap) (hv : v.isRef = true) : (Cond.isRef (.static C n d)).before args s = true := by
  obtain ⟨cf, kf, fi, f, a, cell, h1, h2, h3, h4, h5, h6, h7, -⟩ := h
  have he : (Term.static C n d).eval args s none [] s = some v := by
    simp [Term.eval, State.fieldNamed?, h1, h2, h4, h5, h6, h7]
  simp only [Cond.before, Cond.holds, Cond.value, he]
  cases v <;> simp_all [Value.isRef]
theorem vx_isRefq {C n d : String} {A : Nat → Prop} {s : State} {args : Array Value} (h : va_Zq C n d A s s.heap) : (Cond.isRef (.static C n d)).before args s = true := by
  rcases h with h | ⟨t, h⟩
  · exact vx_isRef h rfl
  · exact vx_isRef h rfl
/-- the same frame, seen from here: as if the method were called anew in this heap -/
theorem vx_rebase {T : State} (X : Stand p l e R s m args below meth c T locs cells slots) {R' : Room} (hf : R'.frames ≤ R.frames) (hl : R'.locals ≤ R.locals) (hc : cells + R'.cells ≤ R.cells) (hs : slots + R'.slots ≤ R.slots) :
    Stand p l e R' ((T.setVm s.vm).setFrames (.invoking m args :: below)) m args below meth c T [] 0 0 := by
  have htop : (T.setVm s.vm).topJava?.isSome := X.here.top
  have hF : ((T.setVm s.vm).setFrames (.invoking m args :: below)).frames = .invoking m args :: below := State.frames_setFrames _ (State.cur_lt_of_top htop)
  obtain ⟨g₀, hg0⟩ := Option.isSome_iff_exists.mp htop
  obtain ⟨r, hr⟩ := State.topJava?_eq_some.mp hg0
  have hl9 : e.platform.stackLimits (T.setVm s.vm).me = e.platform.stackLimits s.me := X.limits
  have hb9 : (T.setVm s.vm).me.stackBytes = s.me.stackBytes := X.bytes
  refine ⟨X.admits, X.cas, X.clock, hF, ?_, X.hears, X.method, X.code, X.here, X.tail, X.warmed, ?_, ?_, ?_⟩
  · have h := X.room
    have hU : ((T.setVm s.vm).setFrames (.invoking m args :: below)).localsInUse = s.localsInUse := by
      rw [State.localsInUse_invoking hF (meth := meth) (c := c) X.method X.code, State.localsInUse_invoking X.frames X.method X.code]
    simp only [State.hasRoom, Bool.and_eq_true, decide_eq_true_eq] at h ⊢
    obtain ⟨⟨⟨⟨h1, h2, h3, h4, h5, h6⟩, h7⟩, h8⟩, h9⟩ := h
    rw [X.frames, List.length_cons] at h2 h3
    have q1 := X.heapSize
    have q2 := X.used
    simp only [hF, hU, List.length_cons, State.stackLimits_setFrames, State.stackBytes_setFrames, hl9, hb9]
    refine ⟨⟨⟨⟨by omega, by omega, by omega, by omega, by omega, h6⟩, ?_⟩, ?_⟩, X.book⟩
    · show T.heap.size + R'.cells ≤ e.platform.maxCells
      omega
    · show T.slotsUsed + R'.slots ≤ e.platform.maxSlots
      omega
  · rw [State.stackLimits_setFrames]; rfl
  · rw [State.stackBytes_setFrames]; rfl
  · refine ⟨?_, Nat.le_refl _, Nat.le_refl _, ?_, ?_, fun a c9 h9 => ⟨c9, h9, rfl, rfl, fun _ _ => rfl⟩⟩
    · obtain ⟨t, ht, -⟩ := State.frames_cons hr
      show T.setVm s.vm = { ((T.setVm s.vm).setFrames (.invoking m args :: below)).setFrames (T.setVm s.vm).frames with heap := T.heap, slotsUsed := T.slotsUsed }
      rw [State.setFrames_setFrames, State.setFrames_self ht]
      rfl
    · show T.slotsUsed = T.slotsUsed + ((T.heap.toList.drop T.heap.size).map (·.slots.size)).sum
      rw [List.drop_eq_nil_of_le (Nat.le_of_eq Array.length_toList)]
      rfl
    · show ((T.heap.toList.drop T.heap.size).map (·.slots.size)).sum ≤ 0
      rw [List.drop_eq_nil_of_le (Nat.le_of_eq Array.length_toList)]
      exact Nat.le_refl _
/-- 'throw new E()': new; dup; invokespecial; athrow -/
theorem vx_throw0 {cc : ByteArray} {pc : Nat} (hexec : p.tables.exec = Jvm.exec) (hb : c.code = cc) (hl : l.stackTraces = false) {own cls : String} {names : List String} {ik ic mc ms : Nat} {A : Nat → Prop}
    (hown : s.vm.findClass own = some m.cls) (hcls : Bundle.fit cls = true) (hnames : ∀ n ∈ names, Bundle.fit n = true)
    (hk : (Cond.classLink own ik cls).before args s = true) (hini : (Cond.initialized cls).before args s = true) (hat : ∀ w ∈ vx_at0 own ic cls names, w.before args s = true)
    (hgood : ∀ w ∈ Cond.classLink own ik cls :: Cond.initialized cls :: vx_at0 own ic cls names, vx_ot w = true)
    (hU : vx_Zq Bundle.tN "UNASSIGNED_STACK" Bundle.steD A s s.heap) (hN : vx_Zq Bundle.tN "SUPPRESSED_SENTINEL" Bundle.listD A s s.heap) (hS : va_S A s.heap H locs) (hsize : ls.size = c.maxLocals)
    (d0 : decode cc pc = .ok (.new ik, 3)) (d3 : decode cc (pc + 3) = .ok (.dup, 1)) (d4 : decode cc (pc + 4) = .ok (.invokespecial ic, 3)) (d7 : decode cc (pc + 7) = .ok (.athrow, 1))
    (hout : ∀ x ∈ c.exceptionTable.toList, covers x (pc + 7) = false)
    (hRframes : names.length + 3 < R.frames) (hRlocals : (rest.map fun v => v.category).sum + (13 * (names.length + 1) + 42) ≤ R.locals) (hRcells : cells + 1 ≤ R.cells) (hRslots : slots + 6 ≤ R.slots) (hlocks : meth.locks = false)
    (hx : ∀ t : State, s.vm.Alike t.vm → H.size ≤ t.heap.size → (∀ q : Nat, q < H.size → t.heap[q]? = H[q]?) → XC cls s t)
    (hf : ∀ z ∈ locs, free z.base) (hc : cells + 1 ≤ mc) (hs : slots + 6 ≤ ms) :
    W p l e R s m args below meth c H locs cells slots (vx_MQ below Qc XC args s mc ms free) (F0 m pc ls rest) := by
  intro T hT X
  have htr : e.platform.stackTraces = false := (show e.platform.stackTraces = l.stackTraces by rw [X.admits.platform]).trans hl
  have Y := vx_rebase X (R' := { frames := R.frames, locals := R.locals, cells := 1, slots := 6 }) (Nat.le_refl _) (Nat.le_refl _) hRcells hRslots
  obtain ⟨s', hA⟩ : ∃ z, z = (T.setVm s.vm).setFrames (.invoking m args :: below) := ⟨_, rfl⟩
  rw [← hA] at Y
  have hvm : s'.vm = s.vm := by rw [hA]; rfl
  have hhp : s'.heap = H := by rw [hA]; exact hT
  have hW0 : s.WarmedH s'.vm := by rw [hvm]; exact State.WarmedH.refl s
  have hat' : ∀ w ∈ vx_at0 own ic cls names, w.before args s' = true := fun w hw => vx_ot_at hW0 hvm.symm (hgood w (List.mem_cons_of_mem _ (List.mem_cons_of_mem _ hw))) (hat w hw)
  have hk' : (Cond.classLink own ik cls).before args s' = true := vx_ot_at hW0 hvm.symm (hgood _ List.mem_cons_self) hk
  have hini' : (Cond.initialized cls).before args s' = true := vx_ot_at hW0 hvm.symm (hgood _ (List.mem_cons_of_mem _ List.mem_cons_self)) hini
  have hU' : vx_Zq Bundle.tN "UNASSIGNED_STACK" Bundle.steD A s' s'.heap := by rw [hhp]; exact vx_Zq.moved hW0.alike (hU.kept hS.2.1)
  have hN' : vx_Zq Bundle.tN "SUPPRESSED_SENTINEL" Bundle.listD A s' s'.heap := by rw [hhp]; exact vx_Zq.moved hW0.alike (hN.kept hS.2.1)
  have h : ∀ w ∈ Bundle.ownAtoms0 own ic cls names, w.before args s' = true := vx_own hat' (vx_isRefq hU'.1) (vx_isRefq hN'.1) hU'.2.word hN'.2.word
  have hown' : s'.vm.findClass own = some m.cls := by rw [hvm]; exact hown
  have hins : (Cond.instantiable cls 6).before args s' = true := h _ (by simp [Bundle.ownAtoms0])
  obtain ⟨vm₁, cX, kX, hfX, hkX, -, -, X₁, st1⟩ := Y.newCold hexec (own := own) (C := cls) (index := ik) (n := 6) hown' hk' hins hini'
    (g := F0 m pc ls rest) rfl (by rw [hb]; exact d0) (Nat.le_refl _) (Nat.le_refl _)
  generalize hT1 : (T.setVm vm₁).pushCell { cls := cX, slots := kX.instanceTypes.map defaultValue, vm := .none } = T1 at X₁ st1
  have hcat : (Value.ref T.heap.size).category = 1 := rfl
  have hcellA : T1.heap[T.heap.size]? = some (freshCell cX kX) := by rw [← hT1]; exact State.heap_pushCell_size _ _
  have d3' : decode c.code (pc + 3) = .ok (.dup, 1) := by rw [hb]; exact d3
  obtain ⟨U, hsteps, hrun, hend, hW, hsame, ce, hce, hO⟩ := X₁.ctorThrow0 hexec htr (own := own) (cls := cls) (names := names) (ic := ic) hown' hcls hnames h (fun x hx => nomatch hx) hfX hkX hcellA (by rw [hhp, hT]; exact Nat.le_refl _)
    (g := { method := m, pc := pc + 4, locals := ls, stack := .ref T.heap.size :: .ref T.heap.size :: rest, locked := none }) rfl hsize rfl rfl (rest := rest) rfl
    (by rw [hb]; exact d4) (by rw [hb]; exact d7) hout hRframes (by simp only [List.map_cons, List.sum_cons, hcat]; omega) hlocks
  obtain ⟨f1, f2⟩ := vx_frame hsame
  rw [hhp] at f1 f2
  have hWs : s.WarmedH U.vm := State.WarmedH.trans hW0 hW
  have hcl : s.vm.findClass cls = some ce.cls := by
    have h9 := hO.cls
    rw [hvm] at h9
    exact h9
  have hall : s.sameButNew ({ U with vm := s.vm } : State) locs mc ms := by
    subst hA
    obtain ⟨e1, e2⟩ := hsame
    rw [State.setFrames_setFrames] at e1
    have h2 : (T.setVm s.vm).sameButNew ({ U with vm := s.vm } : State) [] (0 + 1) (0 + 6) := ⟨e1, e2⟩
    have h3 := X.same.trans h2
    rw [List.append_nil] at h3
    exact h3.mono hc hs
  refine ⟨U, ?_, .threw T.heap.size, hrun, hend, Or.inr ⟨T.heap.size, rfl, cls, ce, locs, hx U hWs.alike f1 (fun q hq => f2 q hq (fun z hz => nomatch hz)), hce, hO.vm, hcl, hWs, hall, hf⟩⟩
  refine st1 _ ?_
  show Steps p.tables e below (T1.setTop { method := m, pc := pc + 3, locals := ls, stack := .ref T.heap.size :: rest, locked := none }) _
  jvm_step X₁.here [X₁.here.top, hexec, d3', Value.category]
  exact hsteps
/-- 'throw new E("text")': new; dup; ldc; invokespecial; athrow -/
theorem vx_throwS {cc : ByteArray} {pc : Nat} (hexec : p.tables.exec = Jvm.exec) (hb : c.code = cc) (hl : l.stackTraces = false) {own cls text : String} {names : List String} {ik is ic mc ms sa : Nat} {A : Nat → Prop}
    (hown : s.vm.findClass own = some m.cls) (hcls : Bundle.fit cls = true) (hnames : ∀ n ∈ names, Bundle.fit n = true)
    (hk : (Cond.classLink own ik cls).before args s = true) (hini : (Cond.initialized cls).before args s = true) (hstr : vk_R own is text sa s) (hat : ∀ w ∈ vx_atS own ic cls names, w.before args s = true)
    (hgood : ∀ w ∈ Cond.classLink own ik cls :: Cond.initialized cls :: vx_atS own ic cls names, vx_ot w = true)
    (hU : vx_Zq Bundle.tN "UNASSIGNED_STACK" Bundle.steD A s s.heap) (hN : vx_Zq Bundle.tN "SUPPRESSED_SENTINEL" Bundle.listD A s s.heap) (hS : va_S A s.heap H locs) (hsize : ls.size = c.maxLocals)
    (d0 : decode cc pc = .ok (.new ik, 3)) (d3 : decode cc (pc + 3) = .ok (.dup, 1)) (d4 : decode cc (pc + 4) = .ok (.ldc is, 2)) (d6 : decode cc (pc + 6) = .ok (.invokespecial ic, 3)) (d9 : decode cc (pc + 9) = .ok (.athrow, 1))
    (hout : ∀ x ∈ c.exceptionTable.toList, covers x (pc + 9) = false)
    (hRframes : names.length + 3 < R.frames) (hRlocals : (rest.map fun v => v.category).sum + (13 * (names.length + 1) + 43) ≤ R.locals) (hRcells : cells + 1 ≤ R.cells) (hRslots : slots + 6 ≤ R.slots) (hlocks : meth.locks = false)
    (hx : ∀ t : State, s.vm.Alike t.vm → H.size ≤ t.heap.size → (∀ q : Nat, q < H.size → t.heap[q]? = H[q]?) → XC cls s t)
    (hf : ∀ z ∈ locs, free z.base) (hc : cells + 1 ≤ mc) (hs : slots + 6 ≤ ms) :
    W p l e R s m args below meth c H locs cells slots (vx_MQ below Qc XC args s mc ms free) (F0 m pc ls rest) := by
  intro T hT X
  have htr : e.platform.stackTraces = false := (show e.platform.stackTraces = l.stackTraces by rw [X.admits.platform]).trans hl
  have Y := vx_rebase X (R' := { frames := R.frames, locals := R.locals, cells := 1, slots := 6 }) (Nat.le_refl _) (Nat.le_refl _) hRcells hRslots
  obtain ⟨s', hA⟩ : ∃ z, z = (T.setVm s.vm).setFrames (.invoking m args :: below) := ⟨_, rfl⟩
  rw [← hA] at Y
  have hvm : s'.vm = s.vm := by rw [hA]; rfl
  have hhp : s'.heap = H := by rw [hA]; exact hT
  have hW0 : s.WarmedH s'.vm := by rw [hvm]; exact State.WarmedH.refl s
  have hat' : ∀ w ∈ vx_atS own ic cls names, w.before args s' = true := fun w hw => vx_ot_at hW0 hvm.symm (hgood w (List.mem_cons_of_mem _ (List.mem_cons_of_mem _ hw))) (hat w hw)
  have hk' : (Cond.classLink own ik cls).before args s' = true := vx_ot_at hW0 hvm.symm (hgood _ List.mem_cons_self) hk
  have hini' : (Cond.initialized cls).before args s' = true := vx_ot_at hW0 hvm.symm (hgood _ (List.mem_cons_of_mem _ List.mem_cons_self)) hini
  have hU' : vx_Zq Bundle.tN "UNASSIGNED_STACK" Bundle.steD A s' s'.heap := by rw [hhp]; exact vx_Zq.moved hW0.alike (hU.kept hS.2.1)
  have hN' : vx_Zq Bundle.tN "SUPPRESSED_SENTINEL" Bundle.listD A s' s'.heap := by rw [hhp]; exact vx_Zq.moved hW0.alike (hN.kept hS.2.1)
  have h : ∀ w ∈ Bundle.ownAtoms own ic cls names, w.before args s' = true := vx_own hat' (vx_isRefq hU'.1) (vx_isRefq hN'.1) hU'.2.word hN'.2.word
  have hown' : s'.vm.findClass own = some m.cls := by rw [hvm]; exact hown
  have hins : (Cond.instantiable cls 6).before args s' = true := h _ (by simp [Bundle.ownAtoms])
  obtain ⟨vm₁, cX, kX, hfX, hkX, -, -, X₁, st1⟩ := Y.newCold hexec (own := own) (C := cls) (index := ik) (n := 6) hown' hk' hins hini'
    (g := F0 m pc ls rest) rfl (by rw [hb]; exact d0) (Nat.le_refl _) (Nat.le_refl _)
  generalize hT1 : (T.setVm vm₁).pushCell { cls := cX, slots := kX.instanceTypes.map defaultValue, vm := .none } = T1 at X₁ st1
  have hcat : (Value.ref T.heap.size).category = 1 := rfl
  have hcellA : T1.heap[T.heap.size]? = some (freshCell cX kX) := by rw [← hT1]; exact State.heap_pushCell_size _ _
  have d3' : decode c.code (pc + 3) = .ok (.dup, 1) := by rw [hb]; exact d3
  have d4' : decode c.code (pc + 4) = .ok (.ldc is, 2) := by rw [hb]; exact d4
  have hstr' : vk_R own is text sa s' := vk_R.warm hW0 hstr
  obtain ⟨U, hsteps, hrun, hend, hW, hsame, ce, hce, hO⟩ := X₁.ctorThrowS hexec htr (own := own) (cls := cls) (names := names) (ic := ic) hown' hcls hnames h (fun x hx => nomatch hx) hfX hkX hcellA (by rw [hhp, hT]; exact Nat.le_refl _) (msg := .ref sa) rfl
    (g := { method := m, pc := pc + 6, locals := ls, stack := .ref sa :: .ref T.heap.size :: .ref T.heap.size :: rest, locked := none }) rfl hsize rfl rfl (rest := rest) rfl
    (by rw [hb]; exact d6) (by rw [hb]; exact d9) hout hRframes (by simp only [List.map_cons, List.sum_cons, hcat]; omega) hlocks
  obtain ⟨f1, f2⟩ := vx_frame hsame
  rw [hhp] at f1 f2
  have hWs : s.WarmedH U.vm := State.WarmedH.trans hW0 hW
  have hcl : s.vm.findClass cls = some ce.cls := by
    have h9 := hO.cls
    rw [hvm] at h9
    exact h9
  have hall : s.sameButNew ({ U with vm := s.vm } : State) locs mc ms := by
    subst hA
    obtain ⟨e1, e2⟩ := hsame
    rw [State.setFrames_setFrames] at e1
    have h2 : (T.setVm s.vm).sameButNew ({ U with vm := s.vm } : State) [] (0 + 1) (0 + 6) := ⟨e1, e2⟩
    have h3 := X.same.trans h2
    rw [List.append_nil] at h3
    exact h3.mono hc hs
  refine ⟨U, ?_, .threw T.heap.size, hrun, hend, Or.inr ⟨T.heap.size, rfl, cls, ce, locs, hx U hWs.alike f1 (fun q hq => f2 q hq (fun z hz => nomatch hz)), hce, hO.vm, hcl, hWs, hall, hf⟩⟩
  refine st1 _ ?_
  show Steps p.tables e below (T1.setTop { method := m, pc := pc + 3, locals := ls, stack := .ref T.heap.size :: rest, locked := none }) _
  jvm_step X₁.here [X₁.here.top, hexec, d3', Value.category]
  exact X₁.ldcString hexec (own := own) (text := text) (index := is) (a := sa) hown' hstr'.1 hstr'.2
    (g := { method := m, pc := pc + 4, locals := ls, stack := .ref T.heap.size :: .ref T.heap.size :: rest, locked := none }) rfl d4' _ hsteps
/-- 'throw new E("text")', the text by a wide index -/
theorem vx_throwSW {cc : ByteArray} {pc : Nat} (hexec : p.tables.exec = Jvm.exec) (hb : c.code = cc) (hl : l.stackTraces = false) {own cls text : String} {names : List String} {ik is ic mc ms sa : Nat} {A : Nat → Prop}
    (hown : s.vm.findClass own = some m.cls) (hcls : Bundle.fit cls = true) (hnames : ∀ n ∈ names, Bundle.fit n = true)
    (hk : (Cond.classLink own ik cls).before args s = true) (hini : (Cond.initialized cls).before args s = true) (hstr : vk_R own is text sa s) (hat : ∀ w ∈ vx_atS own ic cls names, w.before args s = true)
    (hgood : ∀ w ∈ Cond.classLink own ik cls :: Cond.initialized cls :: vx_atS own ic cls names, vx_ot w = true)
    (hU : vx_Zq Bundle.tN "UNASSIGNED_STACK" Bundle.steD A s s.heap) (hN : vx_Zq Bundle.tN "SUPPRESSED_SENTINEL" Bundle.listD A s s.heap) (hS : va_S A s.heap H locs) (hsize : ls.size = c.maxLocals)
    (d0 : decode cc pc = .ok (.new ik, 3)) (d3 : decode cc (pc + 3) = .ok (.dup, 1)) (d4 : decode cc (pc + 4) = .ok (.ldc_w is, 3)) (d7 : decode cc (pc + 7) = .ok (.invokespecial ic, 3)) (d10 : decode cc (pc + 10) = .ok (.athrow, 1))
    (hout : ∀ x ∈ c.exceptionTable.toList, covers x (pc + 10) = false)
    (hRframes : names.length + 3 < R.frames) (hRlocals : (rest.map fun v => v.category).sum + (13 * (names.length + 1) + 43) ≤ R.locals) (hRcells : cells + 1 ≤ R.cells) (hRslots : slots + 6 ≤ R.slots) (hlocks : meth.locks = false)
    (hx : ∀ t : State, s.vm.Alike t.vm → H.size ≤ t.heap.size → (∀ q : Nat, q < H.size → t.heap[q]? = H[q]?) → XC cls s t)
    (hf : ∀ z ∈ locs, free z.base) (hc : cells + 1 ≤ mc) (hs : slots + 6 ≤ ms) :
    W p l e R s m args below meth c H locs cells slots (vx_MQ below Qc XC args s mc ms free) (F0 m pc ls rest) := by
  intro T hT X
  have htr : e.platform.stackTraces = false := (show e.platform.stackTraces = l.stackTraces by rw [X.admits.platform]).trans hl
  have Y := vx_rebase X (R' := { frames := R.frames, locals := R.locals, cells := 1, slots := 6 }) (Nat.le_refl _) (Nat.le_refl _) hRcells hRslots
  obtain ⟨s', hA⟩ : ∃ z, z = (T.setVm s.vm).setFrames (.invoking m args :: below) := ⟨_, rfl⟩
  rw [← hA] at Y
  have hvm : s'.vm = s.vm := by rw [hA]; rfl
  have hhp : s'.heap = H := by rw [hA]; exact hT
  have hW0 : s.WarmedH s'.vm := by rw [hvm]; exact State.WarmedH.refl s
  have hat' : ∀ w ∈ vx_atS own ic cls names, w.before args s' = true := fun w hw => vx_ot_at hW0 hvm.symm (hgood w (List.mem_cons_of_mem _ (List.mem_cons_of_mem _ hw))) (hat w hw)
  have hk' : (Cond.classLink own ik cls).before args s' = true := vx_ot_at hW0 hvm.symm (hgood _ List.mem_cons_self) hk
  have hini' : (Cond.initialized cls).before args s' = true := vx_ot_at hW0 hvm.symm (hgood _ (List.mem_cons_of_mem _ List.mem_cons_self)) hini
  have hU' : vx_Zq Bundle.tN "UNASSIGNED_STACK" Bundle.steD A s' s'.heap := by rw [hhp]; exact vx_Zq.moved hW0.alike (hU.kept hS.2.1)
  have hN' : vx_Zq Bundle.tN "SUPPRESSED_SENTINEL" Bundle.listD A s' s'.heap := by rw [hhp]; exact vx_Zq.moved hW0.alike (hN.kept hS.2.1)
  have h : ∀ w ∈ Bundle.ownAtoms own ic cls names, w.before args s' = true := vx_own hat' (vx_isRefq hU'.1) (vx_isRefq hN'.1) hU'.2.word hN'.2.word
  have hown' : s'.vm.findClass own = some m.cls := by rw [hvm]; exact hown
  have hins : (Cond.instantiable cls 6).before args s' = true := h _ (by simp [Bundle.ownAtoms])
  obtain ⟨vm₁, cX, kX, hfX, hkX, -, -, X₁, st1⟩ := Y.newCold hexec (own := own) (C := cls) (index := ik) (n := 6) hown' hk' hins hini'
    (g := F0 m pc ls rest) rfl (by rw [hb]; exact d0) (Nat.le_refl _) (Nat.le_refl _)
  generalize hT1 : (T.setVm vm₁).pushCell { cls := cX, slots := kX.instanceTypes.map defaultValue, vm := .none } = T1 at X₁ st1
  have hcat : (Value.ref T.heap.size).category = 1 := rfl
  have hcellA : T1.heap[T.heap.size]? = some (freshCell cX kX) := by rw [← hT1]; exact State.heap_pushCell_size _ _
  have d3' : decode c.code (pc + 3) = .ok (.dup, 1) := by rw [hb]; exact d3
  have d4' : decode c.code (pc + 4) = .ok (.ldc_w is, 3) := by rw [hb]; exact d4
  have hstr' : vk_R own is text sa s' := vk_R.warm hW0 hstr
  obtain ⟨U, hsteps, hrun, hend, hW, hsame, ce, hce, hO⟩ := X₁.ctorThrowS hexec htr (own := own) (cls := cls) (names := names) (ic := ic) hown' hcls hnames h (fun x hx => nomatch hx) hfX hkX hcellA (by rw [hhp, hT]; exact Nat.le_refl _) (msg := .ref sa) rfl
    (g := { method := m, pc := pc + 7, locals := ls, stack := .ref sa :: .ref T.heap.size :: .ref T.heap.size :: rest, locked := none }) rfl hsize rfl rfl (rest := rest) rfl
    (by rw [hb]; exact d7) (by rw [hb]; exact d10) hout hRframes (by simp only [List.map_cons, List.sum_cons, hcat]; omega) hlocks
  obtain ⟨f1, f2⟩ := vx_frame hsame
  rw [hhp] at f1 f2
  have hWs : s.WarmedH U.vm := State.WarmedH.trans hW0 hW
  have hcl : s.vm.findClass cls = some ce.cls := by
    have h9 := hO.cls
    rw [hvm] at h9
    exact h9
  have hall : s.sameButNew ({ U with vm := s.vm } : State) locs mc ms := by
    subst hA
    obtain ⟨e1, e2⟩ := hsame
    rw [State.setFrames_setFrames] at e1
    have h2 : (T.setVm s.vm).sameButNew ({ U with vm := s.vm } : State) [] (0 + 1) (0 + 6) := ⟨e1, e2⟩
    have h3 := X.same.trans h2
    rw [List.append_nil] at h3
    exact h3.mono hc hs
  refine ⟨U, ?_, .threw T.heap.size, hrun, hend, Or.inr ⟨T.heap.size, rfl, cls, ce, locs, hx U hWs.alike f1 (fun q hq => f2 q hq (fun z hz => nomatch hz)), hce, hO.vm, hcl, hWs, hall, hf⟩⟩
  refine st1 _ ?_
  show Steps p.tables e below (T1.setTop { method := m, pc := pc + 3, locals := ls, stack := .ref T.heap.size :: rest, locked := none }) _
  jvm_step X₁.here [X₁.here.top, hexec, d3', Value.category]
  exact X₁.ldcStringW hexec (own := own) (text := text) (index := is) (a := sa) hown' hstr'.1 hstr'.2
    (g := { method := m, pc := pc + 4, locals := ls, stack := .ref T.heap.size :: .ref T.heap.size :: rest, locked := none }) rfl d4' _ hsteps
end Ends
section Bodies
variable {l : Launch}
theorem vx_ofW {y : MethodName} {ws ws' : List Cond} {rm : Room} {Pc : Array Value → State → Prop} {Qc : Array Value → State → Outcome → State → Prop} {XC : String → State → State → Prop} {mc ms : Nat} {free : Addr → Prop} {cc : ByteArray} {maxL : Nat} {ret : Option FieldType}
    (hy : plainName y.cls = true) (hw : ws = Cond.code y cc maxL ret :: ws')
    (body : ∀ p e s m args below meth c s₁, BodyLoose p l y (headSpec ws rm) cc maxL ret e s m args below meth c s₁ → c.maxLocals = maxL → (∀ x ∈ c.exceptionTable.toList, False) → Pc args s →
      W p l e (headSpec ws rm).room s m args below meth c s.heap [] 0 0 (vx_MQ below Qc XC args s mc ms free) (entryFrame m args maxL)) : vx_Met l y ws rm Pc Qc XC mc ms free := by
  refine MetFree.of_bodyS (code := cc) (maxLocals := maxL) (ret := ret) hy ?_ ?_
  · intro args s m h hn
    obtain ⟨meth, c, h1, h2, h3, h4, h5, h6, -, -⟩ := Cond.code_spec hn (atoms_spec (ws := ws) h _ (by rw [hw]; exact List.mem_cons_self))
    exact ⟨meth, c, h1, h2, h3, h4, h5, h6⟩
  · intro p e s m args below meth c s₁ B hml hP _
    have hh0 : s₁.heap = s.heap := by rw [B.state]; rfl
    have ht : ∀ x ∈ c.exceptionTable.toList, False := by
      obtain ⟨meth9, c9, h1, h2, -, -, -, -, h7, -⟩ := Cond.code_spec B.named (atoms_spec (ws := ws) B.pre _ (by rw [hw]; exact List.mem_cons_self))
      cases Option.some.inj (h1.symm.trans B.method)
      cases Option.some.inj (h2.symm.trans (Stand.of_body B).code)
      intro x hx
      rw [Array.isEmpty_iff.mp h7] at hx
      cases hx
    obtain ⟨t, a1, o, b1, b2, b3⟩ := body p e s m args below meth c s₁ B hml ht hP s₁ hh0 (Stand.of_body B)
    exact ⟨t, o, a1, b1, b2, b3⟩
/-- the table of a body with handlers -/
theorem vx_table {p : Program} {x y : MethodName} {S : Spec} {cc bytes : ByteArray} {maxL maxL' : Nat} {ret ret' : Option FieldType} {e : Env} {s s₁ : State} {m : MethodId} {args : Array Value} {below : List Frame} {meth : Method} {c : Code} {hh : List (Nat × Nat × Nat × Nat)}
    (B : BodyLoose p l y S cc maxL ret e s m args below meth c s₁) (h : (Cond.codeWith y bytes maxL' ret' hh).before args s = true) : c.exceptionTable.toList = tableOf hh := by
  obtain ⟨m9, meth9, c9, hn9, h1, h2, -, -, h6, -⟩ := Cond.codeWith_spec h
  cases Option.some.inj (hn9.symm.trans B.named)
  cases Option.some.inj (h1.symm.trans B.method)
  cases Option.some.inj (h2.symm.trans (Stand.of_body B).code)
  rw [← h6, table_eq]
end Bodies
end VXA
/-! ===== END ===== -/
/-! ===== BEGIN a static call of a method with an exception table ===== -/
section VXS
variable {p : Program} {l : Launch} {e : Env} {R : Room} {s : State} {m : MethodId} {args : Array Value} {below : List Frame} {meth : Method} {c : Code} {T : State} {H : Heap} {locs : List Loc} {cells slots : Nat}
abbrev vx_CSW (R : Room) (s : State) (args : Array Value) (own : String) (index : Nat) (y : MethodName) (bytes : ByteArray) (maxL : Nat) (ret : Option FieldType) (hh : List (Nat × Nat × Nat × Nat)) (ws : List Cond) (rm : Room) (mc ms n : Nat) : Prop :=
  (rm.cells = mc ∧ rm.slots = ms ∧ rm.frames + 1 ≤ R.frames ∧ 8 + (maxL + 11) + rm.locals ≤ R.locals ∧ (∀ w ∈ ws, ∀ (a' : Array Value) (U : State), s.WarmedH U.vm → w.before a' U = true) ∧ Cond.codeWith y bytes maxL ret hh ∈ ws) ∧
  (Cond.codeWith y bytes maxL ret hh).before args s = true ∧ (Cond.initialized y.cls).before args s = true ∧ (y.cls ≠ "java/lang/invoke/MethodHandle" ∧ y.cls ≠ "java/lang/invoke/VarHandle") ∧
  (∀ sig, parseMethodDescriptor y.desc = some sig → n = sig.parameters.length) ∧ (Cond.methodLink own index y).before args s = true ∧ (Cond.static y).before args s = true
theorem vx_cwSW {own : String} {index maxL mc ms : Nat} {y : MethodName} {bytes : ByteArray} {ret : Option FieldType} {hh : List (Nat × Nat × Nat × Nat)} {Ts ws ws' : List Cond} {rm : Room} (n : Nat) (ht : ∀ w ∈ Ts, w.before args s = true) (hT : GoodIn Ts (va_wsS own index y ws)) (hw : ws = Cond.codeWith y bytes maxL ret hh :: ws') (hrc : rm.cells = mc) (hrs : rm.slots = ms)
    (hd : y.cls ≠ "java/lang/invoke/MethodHandle" ∧ y.cls ≠ "java/lang/invoke/VarHandle" ∧ (parseMethodDescriptor y.desc).map (fun d => d.parameters.length) = some n) (hR : rm.frames + 1 ≤ R.frames ∧ 8 + (maxL + 11) + rm.locals ≤ R.locals) :
    vx_CSW R s args own index y bytes maxL ret hh ws rm mc ms n := by
  have ok : ∀ w ∈ va_wsS own index y ws, w.before args s = true := fun w h => ht w (hT w h).1
  have hG : GoodIn Ts ws := fun w h => hT w (by unfold va_wsS; exact List.mem_append_right _ h)
  have hc : Cond.codeWith y bytes maxL ret hh ∈ ws := by rw [hw]; exact List.mem_cons_self
  refine ⟨⟨hrc, hrs, hR.1, hR.2, pay_in ht hG, hc⟩, ht _ (hG _ hc).1, ok _ (by simp [va_wsS]), ⟨hd.1, hd.2.1⟩, fun sig h => ?_, ok _ (by simp [va_wsS]), ok _ (by simp [va_wsS])⟩
  have h2 := hd.2.2
  rw [h] at h2
  exact (Option.some.inj h2).symm
theorem vx_callSW (X : Stand p l e R s m args below meth c T locs cells slots) (hexec : p.tables.exec = Jvm.exec) {own : String} {index : Nat} {y : MethodName} {bytes : ByteArray} {maxL : Nat} {ret : Option FieldType} {hh : List (Nat × Nat × Nat × Nat)}
    (hown : s.vm.findClass own = some m.cls) (hlink : (Cond.methodLink own index y).before args s = true) (hstat : (Cond.static y).before args s = true) (hinit : (Cond.initialized y.cls).before args s = true)
    (hcode : (Cond.codeWith y bytes maxL ret hh).before args s = true) (hy : y.cls ≠ "java/lang/invoke/MethodHandle" ∧ y.cls ≠ "java/lang/invoke/VarHandle")
    {W9 : Nat} {Pre : Pt → Array Value → Prop} {Post : Pt → Array Value → Option Value → Pt → Prop} (hK : Back l R p e below s args y 3 W9 Pre Post)
    {g : JFrame} (hg : g.method = m) (hsize : g.locals.size = c.maxLocals) {argsL rest : List Value} (hlen : ∀ sig, parseMethodDescriptor y.desc = some sig → argsL.length = sig.parameters.length)
    (hstack : g.stack = argsL.reverse ++ rest) (hW : 2 * g.monitorRoom + (rest.map fun v => v.category).sum ≤ W9) (hdg : decode c.code g.pc = .ok (.invokestatic index, 3))
    (hpre : ∀ vm₁, s.WarmedH vm₁ → Pre ⟨T.setVm vm₁, locs, cells, slots⟩ argsL.toArray) :
    ∃ (v : Option Value) (vm₁ : Vm) (B : Pt), s.WarmedH vm₁ ∧ Stand p l e R s m args below meth c B.U B.locs B.cells B.slots ∧ Post ⟨T.setVm vm₁, locs, cells, slots⟩ argsL.toArray v B ∧
      ∀ target, Steps p.tables e below (B.U.setTop { g with pc := g.pc + 3, stack := v.toList ++ rest }) target → Steps p.tables e below (T.setTop g) target := by
  obtain ⟨mk, methM, cM, hnamed, hmethM, -, -, -, -, -, -, hsigM⟩ := Cond.codeWith_spec hcode
  have hstatic : methM.isStatic = true := Cond.static_spec hnamed hmethM hstat
  obtain ⟨kP, hkP, -⟩ := className_of_methodNamed hnamed
  have hinitP : kP.init = .initialized := Cond.initialized_spec (findClass_of_methodNamed hnamed) hkP hinit
  obtain ⟨vm₁, X₁, hstep₁⟩ := X.invokestatic hexec hown hlink hnamed hmethM hstatic hkP hinitP hy (g := g) hg (argsL := argsL) (rest := rest) (hlen _ hsigM) hstack hdg
  obtain ⟨v, B, X', hpost, hsteps⟩ := hK m meth c ⟨T.setVm vm₁, locs, cells, slots⟩ { g with stack := rest } (.invokestatic index) mk argsL.toArray X₁ hg hsize hdg hW (X₁.named hnamed) (hpre vm₁ X₁.warmed)
  exact ⟨v, vm₁, B, X₁.warmed, X', hpost, fun target h => hstep₁ _ fun acts => by rw [doInvoke_state]; exact hsteps.trans h⟩
theorem vx_runSW {y : MethodName} {bytes cc : ByteArray} {maxL nL mc ms n index : Nat} {ret : Option FieldType} {hh : List (Nat × Nat × Nat × Nat)} {ws : List Cond} {rm : Room} {Pc : Array Value → State → Prop} {Qc : Array Value → State → Outcome → State → Prop} {free : Addr → Prop} {Ts : List Cond} {own : String} {As rest : List Value} {g : JFrame}
    (S : CallFix p m c cc nL s args Ts own) (hM : Met l y ws rm Pc Qc mc ms free) (cw : vx_CSW R s args own index y bytes maxL ret hh ws rm mc ms n) (hp : PreS s H Pc As)
    (hg : g.method = m) (hn : As.length = n) (hsize : g.locals.size = nL) (hstack : g.stack = As.reverse ++ rest) (hW : 2 * g.monitorRoom + (rest.map fun v => v.category).sum ≤ 8) (hdg : decode cc g.pc = .ok (.invokestatic index, 3)) (hf : cells + mc ≤ R.cells ∧ slots + ms ≤ R.slots) :
    va_Run p l e R s m args below meth c H locs cells slots mc ms g rest (Qc As.toArray) (free) := by
  obtain ⟨⟨hrc, hrs, hfr, hlo, hws, hcw⟩, hcode, hini, hy, hlen, hl, hstt⟩ := cw
  have hK : Back l R p e below s args y 3 8 (PreOf R mc ms Pc) (PostOf Qc mc ms free) := va_backW (hh := hh) (bytes := bytes) (maxL := maxL) (ret := ret) hM hp.1 hrc hrs hfr hlo hws hcw (fun a' U hW => word_at hW (Or.inl (by first | rfl | simp [Cond.onTables, Cond.keeps, Cond.steady])) hini)
  obtain ⟨hx, hb, hml, ho, -⟩ := S
  intro T hT X
  obtain ⟨v, vm₁, ⟨U', l2, c2, s2⟩, hW₁, X', ⟨g', mk, t, L, e1, e2, hq, h1, hL, h2, h3⟩, st⟩ := vx_callSW X hx (hh := hh) (bytes := bytes) (maxL := maxL) (ret := ret) ho hl hstt hini hcode hy hK hg (hsize.trans hml.symm) (argsL := As) (rest := rest) (fun sig h => hn.trans (hlen sig h)) hstack hW (by rw [hb]; exact hdg)
    (fun vm₁ hW₁ => ⟨hf.1, hf.2, hp.2 (T.setVm vm₁) hT hW₁⟩)
  dsimp only [Pt.U, Pt.locs, Pt.cells, Pt.slots] at X' e1 e2 h1 h2 h3 st
  subst h1; subst h2; subst h3
  exact ⟨v, (T.setVm vm₁).calling g' mk As.toArray, t, U', L, hT, X', hL, e1, e2, hq, st⟩
/-- not caught here, past rows that name other classes: it goes on to the caller -/
theorem vx_outP {p : Program} {l : Launch} {e : Env} {R : Room} {s : State} {m : MethodId} {args : Array Value} {below : List Frame} {meth : Method} {c : Code} {H : Heap} {locs : List Loc} {cells slots : Nat} {free : Addr → Prop} {ls : Array Slot} {rest : List Value} {Qc : Array Value → State → Outcome → State → Prop} {XC : String → State → State → Prop}
    {pc : Nat} {own E : String} {ce : Cell} {q : Addr} {mc ms : Nat} (hown : s.vm.findClass own = some m.cls) (hlocks : meth.locks = false)
    (hpass : ∀ z ∈ c.exceptionTable.toList, covers z pc = false ∨ (z.catchType ≠ 0 ∧ ∃ nm : String, (Cond.classLink own z.catchType nm).before args s = true ∧ va_Nc E nm s)) (hcell : H[q]? = some ce) (hv : ce.vm = .none) (hcl : s.vm.findClass E = some ce.cls)
    (hx : ∀ t : State, t.heap = H → s.vm.Alike t.vm → XC E s t) (hf : ∀ z ∈ locs, free z.base) (hc : cells ≤ mc) (hs : slots ≤ ms) :
    vx_W p l e R s m args below meth c H locs cells slots (vx_MQ below Qc XC args s mc ms free) (F0 m pc ls rest) q := by
  intro T hT X
  have hpl : e.platform.magicAccessors = ({} : Platform).magicAccessors := by rw [X.admits.platform]
  obtain ⟨vm', hW', X', st⟩ := X.outThrough hlocks q (g := F0 m pc ls rest) rfl rfl rfl (cell := ce) (by rw [hT]; exact hcell) (by rw [hv]; rfl)
    (by obtain ⟨k9, h9, -⟩ := Vm.findClass_spec hcl; exact ⟨k9, h9⟩) (fun z hz => by
      rcases hpass z hz with h | ⟨hz0, nm, hl1, hn1⟩
      · exact Or.inl h
      · obtain ⟨c6, hc6, hcl6⟩ := Cond.classLink_spec hown hl1 e.platform hpl
        obtain ⟨a8, b8, h1, h2, h3⟩ := hn1
        cases Option.some.inj (h1.symm.trans hcl)
        cases Option.some.inj (h2.symm.trans hc6)
        exact Or.inr ⟨hz0, _, hcl6, h3⟩)
  obtain ⟨g₀, hfr⟩ := X'.frames_eq
  have hcell9 : ((T.setVm vm').setFrames (.throwing q :: below)).heap[q]? = some ce := by
    show T.heap[q]? = some ce
    rw [hT]; exact hcell
  have hend : Ended ((T.setVm vm').setFrames (.throwing q :: below)) below (.threw q) := State.frames_setFrames _ (State.cur_lt_of_frames hfr)
  refine ⟨(T.setVm vm').setFrames (.throwing q :: below), ?_, .threw q, X'.here.running, hend, Or.inr ⟨q, rfl, E, ce, locs, hx _ hT (X'.ends _).1.alike, hcell9, hv, hcl, (X'.ends _).1, (X'.ends _).2.mono hc hs, hf⟩⟩
  rw [X.pushThrowing_eq]
  exact st
/-- a thing of a world lies in the heap -/
theorem vx_lt {D : va_G} {cl : List vw_C} {ws : va_W} {H1 : Heap} (h : va_P D cl ws H1) {k : Nat} {q : Nat × va_E} (hk : ws[k]? = some q) : q.1 < H1.size := (h k q hk).lt
end VXS
/-! ===== END ===== -/
/-! ===== BEGIN methods with a table of their own: called by a name, returning or throwing ===== -/
section VXH
/-! vx_backW, vx_callVX, vx_callSX, vx_callVW, vx_runVW, vx_runVX, vx_runSX, vx_ofWH follow the same proofs as their sisters above (Free/Laws.lean, Shelf42/LK1.lean); vx_outP calls Shelf42/NT130.lean (outThrough). -/
section
variable {l : Launch} {R : Room} {p : Program} {e : Env} {below : List Frame} {s : State} {sargs : Array Value} {y : MethodName} {len W9 : Nat}
theorem vx_backW {ws : List Cond} {rm : Room} {Pc : Array Value → State → Prop} {Qc : Array Value → State → Outcome → State → Prop} {XC : String → State → State → Prop} {mc ms : Nat} {free : Addr → Prop} {bytes : ByteArray} {maxL : Nat} {ret : Option FieldType} {hh : List (Nat × Nat × Nat × Nat)}
    (hM : vx_Met l y ws rm Pc Qc XC mc ms free) (hblind : FrameBlind Pc) (hrc : rm.cells = mc) (hrs : rm.slots = ms)
    (hframes : rm.frames + 1 ≤ R.frames) (hlocals : W9 + (maxL + 11) + rm.locals ≤ R.locals)
    (hws : ∀ w ∈ ws, ∀ a' U, s.WarmedH U.vm → w.before a' U = true) (hcode : Cond.codeWith y bytes maxL ret hh ∈ ws) (hinit : ∀ a' U, s.WarmedH U.vm → (Cond.initialized y.cls).before a' U = true) :
    vx_Back l R p e below s sargs y len W9 (PreOf R mc ms Pc) (PostOf Qc mc ms free) (vx_Post XC mc ms free) := by
  intro m meth c A g ig mk a X hg hsize hdg hW hn hp
  have h1 : (headSpec ws rm).pre.before a A.U = true := atoms_intro fun w hw => hws w hw _ _ X.warmed
  have h2 : (Cond.codeWith y bytes maxL ret hh).before a A.U = true := hws _ hcode _ _ X.warmed
  have h3 : (Cond.initialized y.cls).before a A.U = true := hinit _ _ X.warmed
  have h4 : A.cells + (headSpec ws rm).room.cells ≤ R.cells := by rw [show (headSpec ws rm).room.cells = mc from hrc]; exact hp.1
  have h5 : A.slots + (headSpec ws rm).room.slots ≤ R.slots := by rw [show (headSpec ws rm).room.slots = ms from hrs]; exact hp.2.1
  have hPc : Pc a (A.U.calling g mk a) := hblind _ _ _ _ hp.2.2
  obtain ⟨U, Ls, c0, s0⟩ := A
  dsimp only [Pt.U, Pt.locs, Pt.cells, Pt.slots] at h1 h2 h3 h4 h5 X hn hPc ⊢
  obtain ⟨m9, methY, cY, hn9, hmY, hcY, -, hlY, -⟩ := Cond.codeWith_spec h2
  cases Option.some.inj (hn9.symm.trans hn)
  obtain ⟨kY, hkY, -⟩ := className_of_methodNamed hn
  have hinitY : kY.init = .initialized := Cond.initialized_spec (findClass_of_methodNamed hn) hkY h3
  have h : At U g.method c below := by rw [hg]; exact X.here
  have hlocals9 : W9 + (maxL + 11) + (headSpec ws rm).room.locals ≤ R.locals := hlocals
  have happ : (headSpec ws rm).appliesLoose y e.platform (U.calling g mk a) = true :=
    Spec.appliesLoose_calling (g := g) h hdg hn hkY hinitY
      (X.room_calling (g := g) (R' := (headSpec ws rm).room) hsize hmY hcY hframes (by rw [hlY]; omega) h4 h5) h1
  obtain ⟨mid, hmid⟩ := h.above
  have hfr : (U.setTop g).frames = (.java g :: mid) ++ below := by rw [State.frames_setTop' g h.top, hmid]; rfl
  obtain ⟨o, s₂, hsteps, -, hend, hq⟩ := Steps.callFree hM p X.admits X.cas X.clock (acts := []) hfr happ hPc trivial
  have hq' : vx_Q Qc XC mc ms free a (U.calling g mk a) o s₂ := hq
  rw [State.frames_setTop' g h.top] at hend
  obtain ⟨g₀, hg0⟩ := Option.isSome_iff_exists.mp h.top
  obtain ⟨r, hr⟩ := State.topJava?_eq_some.mp hg0
  have hr' : (({ U with heap := s₂.heap, slotsUsed := s₂.slotsUsed } : State).setVm s₂.vm).frames = .java g₀ :: r := hr
  rcases hq' with ⟨hqc, L, hfe, hL⟩ | ⟨q, rfl, E, ce, L, hx, hce, hcv, hcl, hW₂, hsm, hL⟩
  · obtain ⟨⟨v, rfl⟩, hW₂, e2, q2, q3, q4, q5, q6⟩ := id hfe
    have e3 : s₂ = ({ (U.calling g mk a).setFrames s₂.frames with heap := s₂.heap, slotsUsed := s₂.slotsUsed } : State).setVm s₂.vm := by
      have : s₂ = ({ s₂ with vm := (U.calling g mk a).vm } : State).setVm s₂.vm := rfl
      rw [e2] at this
      exact this
    obtain ⟨c₂, i₂, len₂, hc₂, hd₂, hf₂⟩ := hend
    have hW' : U.WarmedH s₂.vm := hW₂
    have hcc : c₂ = c := by
      have h1 : s₂.code? g.method = U.code? g.method := by
        rw [State.code?_eq, State.code?_eq, hW'.alike.method?]
      exact Option.some.inj (hc₂.symm.trans (h1.trans h.code))
    subst hcc
    have hlen : len₂ = len := by rw [hdg] at hd₂; cases hd₂; rfl
    subst hlen
    have hs₂ : s₂ = (({ U with heap := s₂.heap, slotsUsed := s₂.slotsUsed } : State).setVm s₂.vm).setTop { g with pc := g.pc + len₂, stack := v.toList ++ g.stack } := by
      refine e3.trans ?_
      rw [hf₂, State.calling_eq h.top, State.setFrames_setFrames, State.setTop_of_frames _ hr', hr]
      rfl
    have hsame : U.sameButNew ({ U with heap := s₂.heap, slotsUsed := s₂.slotsUsed } : State) L mc ms := by
      refine ⟨?_, q2, q3, q4, q5, q6⟩
      obtain ⟨t, ht, -⟩ := State.frames_cons hr
      show ({ U with heap := s₂.heap, slotsUsed := s₂.slotsUsed } : State) = { U.setFrames U.frames with heap := s₂.heap, slotsUsed := s₂.slotsUsed }
      rw [State.setFrames_self ht]
    subst hg
    refine Or.inl ⟨v, ⟨(({ U with heap := s₂.heap, slotsUsed := s₂.slotsUsed } : State).setVm s₂.vm), Ls ++ L, c0 + mc, s0 + ms⟩,
      ⟨X.admits, X.cas, X.clock, X.frames, X.room, X.hears, X.method, X.code, (X.here.setHeapUsed s₂.heap s₂.slotsUsed).setVm hW'.alike, X.tail, State.WarmedH.trans X.warmed hW', X.limits, X.bytes, X.same.trans (hsame.setVm s.vm)⟩,
      ⟨g, mk, s₂, L, rfl, rfl, hqc, rfl, hL, rfl, rfl⟩, ?_⟩
    show Steps p.tables e below _ ((({ U with heap := s₂.heap, slotsUsed := s₂.slotsUsed } : State).setVm s₂.vm).setTop { g with pc := g.pc + len₂, stack := v.toList ++ g.stack })
    rw [← hs₂]
    exact hsteps
  · obtain ⟨e2, q2, q3, q4, q5, q6⟩ := id hsm
    have e3 : s₂ = ({ (U.calling g mk a).setFrames s₂.frames with heap := s₂.heap, slotsUsed := s₂.slotsUsed } : State).setVm s₂.vm := by
      have : s₂ = ({ s₂ with vm := (U.calling g mk a).vm } : State).setVm s₂.vm := rfl
      rw [e2] at this
      exact this
    have hf₂ : s₂.frames = .throwing q :: .java g :: U.frames.tail := hend
    have hW' : U.WarmedH s₂.vm := hW₂
    have hs₂ : s₂ = ((({ U with heap := s₂.heap, slotsUsed := s₂.slotsUsed } : State).setVm s₂.vm).setTop g).pushFrame (.throwing q) := by
      refine e3.trans ?_
      rw [hf₂, State.calling_eq h.top, State.setFrames_setFrames, State.pushFrame, State.frames_setTop _ hr', State.setTop_of_frames _ hr', State.setFrames_setFrames, hr]
      rfl
    have hsame : U.sameButNew ({ U with heap := s₂.heap, slotsUsed := s₂.slotsUsed } : State) L mc ms := by
      refine ⟨?_, q2, q3, q4, q5, q6⟩
      obtain ⟨t, ht, -⟩ := State.frames_cons hr
      show ({ U with heap := s₂.heap, slotsUsed := s₂.slotsUsed } : State) = { U.setFrames U.frames with heap := s₂.heap, slotsUsed := s₂.slotsUsed }
      rw [State.setFrames_self ht]
    subst hg
    refine Or.inr ⟨q, ⟨(({ U with heap := s₂.heap, slotsUsed := s₂.slotsUsed } : State).setVm s₂.vm), Ls ++ L, c0 + mc, s0 + ms⟩,
      ⟨X.admits, X.cas, X.clock, X.frames, X.room, X.hears, X.method, X.code, (X.here.setHeapUsed s₂.heap s₂.slotsUsed).setVm hW'.alike, X.tail, State.WarmedH.trans X.warmed hW', X.limits, X.bytes, X.same.trans (hsame.setVm s.vm)⟩,
      ⟨g, mk, s₂, L, E, ce, rfl, rfl, hx, hce, hcv, hcl, rfl, hL, rfl, rfl⟩, ?_⟩
    show Steps p.tables e below _ (((({ U with heap := s₂.heap, slotsUsed := s₂.slotsUsed } : State).setVm s₂.vm).setTop g).pushFrame (.throwing q))
    rw [← hs₂]
    exact hsteps
end
variable {p : Program} {l : Launch} {e : Env} {R : Room} {s : State} {m : MethodId} {args : Array Value} {below : List Frame} {meth : Method} {c : Code} {T : State} {H : Heap} {locs : List Loc} {cells slots : Nat}
theorem vx_callVX (X : Stand p l e R s m args below meth c T locs cells slots) (hexec : p.tables.exec = Jvm.exec) {own C : String} {index : Nat} {y : MethodName} {bytes : ByteArray} {maxL : Nat} {ret : Option FieldType} {hh : List (Nat × Nat × Nat × Nat)}
    (hown : s.vm.findClass own = some m.cls) (hlink : (Cond.methodLink own index y).before args s = true) (hinst : (Cond.instanceMethod y).before args s = true) (hsel : (Cond.selects C y y).before args s = true)
    (hcode : (Cond.codeWith y bytes maxL ret hh).before args s = true) (hy : y.cls ≠ "java/lang/invoke/MethodHandle" ∧ y.cls ≠ "java/lang/invoke/VarHandle")
    {W9 : Nat} {Pre : Pt → Array Value → Prop} {Post : Pt → Array Value → Option Value → Pt → Prop} {PostX : Pt → Array Value → Addr → Pt → Prop} (hK : vx_Back l R p e below s args y 3 W9 Pre Post PostX)
    {b : Addr} {cellB : Cell} (hcell : T.heap[b]? = some cellB) (hobj : cellB.vm.isStatics = false) (hcls : s.vm.findClass C = some cellB.cls)
    {g : JFrame} (hg : g.method = m) (hsize : g.locals.size = c.maxLocals) {argsL rest : List Value} (hlen : ∀ sig, parseMethodDescriptor y.desc = some sig → argsL.length = sig.parameters.length)
    (hstack : g.stack = argsL.reverse ++ .ref b :: rest) (hW : 2 * g.monitorRoom + (rest.map fun v => v.category).sum ≤ W9) (hdg : decode c.code g.pc = .ok (.invokevirtual index, 3))
    (hpre : ∀ vm₁, s.WarmedH vm₁ → Pre ⟨T.setVm vm₁, locs, cells, slots⟩ (Value.ref b :: argsL).toArray) :
    (∃ (v : Option Value) (vm₁ : Vm) (B : Pt), s.WarmedH vm₁ ∧ Stand p l e R s m args below meth c B.U B.locs B.cells B.slots ∧ Post ⟨T.setVm vm₁, locs, cells, slots⟩ (Value.ref b :: argsL).toArray v B ∧
      ∀ target, Steps p.tables e below (B.U.setTop { g with pc := g.pc + 3, stack := v.toList ++ rest }) target → Steps p.tables e below (T.setTop g) target) ∨
    (∃ (q : Addr) (vm₁ : Vm) (B : Pt), s.WarmedH vm₁ ∧ Stand p l e R s m args below meth c B.U B.locs B.cells B.slots ∧ PostX ⟨T.setVm vm₁, locs, cells, slots⟩ (Value.ref b :: argsL).toArray q B ∧
      Steps p.tables e below (T.setTop g) ((B.U.setTop { g with stack := rest }).pushFrame (.throwing q))) := by
  obtain ⟨mk, methM, hnamed, hmethM, hstM, habM⟩ := Cond.instanceMethod_spec hinst
  obtain ⟨m8, methM', cM, hn8, hmethM', -, -, -, -, -, -, hsigM⟩ := Cond.codeWith_spec hcode
  cases Option.some.inj (hn8.symm.trans hnamed)
  cases hmethM.symm.trans hmethM'
  obtain ⟨c2, r2, m2, q1, q2, q3, q4, kP, hkP, hkPi⟩ := Cond.selects_spec hsel
  cases hcls.symm.trans q1
  cases (State.methodFound?_of_named hnamed hy).symm.trans q2
  cases hnamed.symm.trans q3
  have hselP : selectMethod e.platform s.vm cellB.cls mk = .method mk := by rw [Launch.admits_selectMethod X.admits]; exact q4
  obtain ⟨vm₁, X₁, hstep₁⟩ := X.invokevirtual hexec hown hlink hnamed hmethM hstM hkP hkPi hy (a := b) (cell := cellB) hcell
    (fun z h => by rw [h] at hobj; cases hobj) hselP hmethM habM hkP hkPi (g := g) hg (argsL := argsL) (rest := rest) (hlen _ hsigM) hstack hdg
  rcases hK m meth c ⟨T.setVm vm₁, locs, cells, slots⟩ { g with stack := rest } (.invokevirtual index) mk (Value.ref b :: argsL).toArray X₁ hg hsize hdg hW (X₁.named hnamed) (hpre vm₁ X₁.warmed) with ⟨v, B, X', hpost, hsteps⟩ | ⟨q, B, X', hpost, hsteps⟩
  · exact Or.inl ⟨v, vm₁, B, X₁.warmed, X', hpost, fun target h => hstep₁ _ fun acts => by rw [doInvoke_state]; exact hsteps.trans h⟩
  · exact Or.inr ⟨q, vm₁, B, X₁.warmed, X', hpost, hstep₁ _ fun acts => by rw [doInvoke_state]; exact hsteps⟩
theorem vx_callSX (X : Stand p l e R s m args below meth c T locs cells slots) (hexec : p.tables.exec = Jvm.exec) {own : String} {index : Nat} {y : MethodName} {bytes : ByteArray} {maxL : Nat} {ret : Option FieldType} {hh : List (Nat × Nat × Nat × Nat)}
    (hown : s.vm.findClass own = some m.cls) (hlink : (Cond.methodLink own index y).before args s = true) (hstat : (Cond.static y).before args s = true) (hinit : (Cond.initialized y.cls).before args s = true)
    (hcode : (Cond.codeWith y bytes maxL ret hh).before args s = true) (hy : y.cls ≠ "java/lang/invoke/MethodHandle" ∧ y.cls ≠ "java/lang/invoke/VarHandle")
    {W9 : Nat} {Pre : Pt → Array Value → Prop} {Post : Pt → Array Value → Option Value → Pt → Prop} {PostX : Pt → Array Value → Addr → Pt → Prop} (hK : vx_Back l R p e below s args y 3 W9 Pre Post PostX)
    {g : JFrame} (hg : g.method = m) (hsize : g.locals.size = c.maxLocals) {argsL rest : List Value} (hlen : ∀ sig, parseMethodDescriptor y.desc = some sig → argsL.length = sig.parameters.length)
    (hstack : g.stack = argsL.reverse ++ rest) (hW : 2 * g.monitorRoom + (rest.map fun v => v.category).sum ≤ W9) (hdg : decode c.code g.pc = .ok (.invokestatic index, 3))
    (hpre : ∀ vm₁, s.WarmedH vm₁ → Pre ⟨T.setVm vm₁, locs, cells, slots⟩ argsL.toArray) :
    (∃ (v : Option Value) (vm₁ : Vm) (B : Pt), s.WarmedH vm₁ ∧ Stand p l e R s m args below meth c B.U B.locs B.cells B.slots ∧ Post ⟨T.setVm vm₁, locs, cells, slots⟩ argsL.toArray v B ∧
      ∀ target, Steps p.tables e below (B.U.setTop { g with pc := g.pc + 3, stack := v.toList ++ rest }) target → Steps p.tables e below (T.setTop g) target) ∨
    (∃ (q : Addr) (vm₁ : Vm) (B : Pt), s.WarmedH vm₁ ∧ Stand p l e R s m args below meth c B.U B.locs B.cells B.slots ∧ PostX ⟨T.setVm vm₁, locs, cells, slots⟩ argsL.toArray q B ∧
      Steps p.tables e below (T.setTop g) ((B.U.setTop { g with stack := rest }).pushFrame (.throwing q))) := by
  obtain ⟨mk, methM, cM, hnamed, hmethM, -, -, -, -, -, -, hsigM⟩ := Cond.codeWith_spec hcode
  have hstatic : methM.isStatic = true := Cond.static_spec hnamed hmethM hstat
  obtain ⟨kP, hkP, -⟩ := className_of_methodNamed hnamed
  have hinitP : kP.init = .initialized := Cond.initialized_spec (findClass_of_methodNamed hnamed) hkP hinit
  obtain ⟨vm₁, X₁, hstep₁⟩ := X.invokestatic hexec hown hlink hnamed hmethM hstatic hkP hinitP hy (g := g) hg (argsL := argsL) (rest := rest) (hlen _ hsigM) hstack hdg
  rcases hK m meth c ⟨T.setVm vm₁, locs, cells, slots⟩ { g with stack := rest } (.invokestatic index) mk argsL.toArray X₁ hg hsize hdg hW (X₁.named hnamed) (hpre vm₁ X₁.warmed) with ⟨v, B, X', hpost, hsteps⟩ | ⟨q, B, X', hpost, hsteps⟩
  · exact Or.inl ⟨v, vm₁, B, X₁.warmed, X', hpost, fun target h => hstep₁ _ fun acts => by rw [doInvoke_state]; exact hsteps.trans h⟩
  · exact Or.inr ⟨q, vm₁, B, X₁.warmed, X', hpost, hstep₁ _ fun acts => by rw [doInvoke_state]; exact hsteps⟩
theorem vx_callVW (X : Stand p l e R s m args below meth c T locs cells slots) (hexec : p.tables.exec = Jvm.exec) {own C : String} {index : Nat} {y : MethodName} {bytes : ByteArray} {maxL : Nat} {ret : Option FieldType} {hh : List (Nat × Nat × Nat × Nat)}
    (hown : s.vm.findClass own = some m.cls) (hlink : (Cond.methodLink own index y).before args s = true) (hinst : (Cond.instanceMethod y).before args s = true) (hsel : (Cond.selects C y y).before args s = true)
    (hcode : (Cond.codeWith y bytes maxL ret hh).before args s = true) (hy : y.cls ≠ "java/lang/invoke/MethodHandle" ∧ y.cls ≠ "java/lang/invoke/VarHandle")
    {W9 : Nat} {Pre : Pt → Array Value → Prop} {Post : Pt → Array Value → Option Value → Pt → Prop} (hK : Back l R p e below s args y 3 W9 Pre Post)
    {b : Addr} {cellB : Cell} (hcell : T.heap[b]? = some cellB) (hobj : cellB.vm.isStatics = false) (hcls : s.vm.findClass C = some cellB.cls)
    {g : JFrame} (hg : g.method = m) (hsize : g.locals.size = c.maxLocals) {argsL rest : List Value} (hlen : ∀ sig, parseMethodDescriptor y.desc = some sig → argsL.length = sig.parameters.length)
    (hstack : g.stack = argsL.reverse ++ .ref b :: rest) (hW : 2 * g.monitorRoom + (rest.map fun v => v.category).sum ≤ W9) (hdg : decode c.code g.pc = .ok (.invokevirtual index, 3))
    (hpre : ∀ vm₁, s.WarmedH vm₁ → Pre ⟨T.setVm vm₁, locs, cells, slots⟩ (Value.ref b :: argsL).toArray) :
    ∃ (v : Option Value) (vm₁ : Vm) (B : Pt), s.WarmedH vm₁ ∧ Stand p l e R s m args below meth c B.U B.locs B.cells B.slots ∧ Post ⟨T.setVm vm₁, locs, cells, slots⟩ (Value.ref b :: argsL).toArray v B ∧
      ∀ target, Steps p.tables e below (B.U.setTop { g with pc := g.pc + 3, stack := v.toList ++ rest }) target → Steps p.tables e below (T.setTop g) target := by
  obtain ⟨mk, methM, hnamed, hmethM, hstM, habM⟩ := Cond.instanceMethod_spec hinst
  obtain ⟨m8, methM', cM, hn8, hmethM', -, -, -, -, -, -, hsigM⟩ := Cond.codeWith_spec hcode
  cases Option.some.inj (hn8.symm.trans hnamed)
  cases hmethM.symm.trans hmethM'
  obtain ⟨c2, r2, m2, q1, q2, q3, q4, kP, hkP, hkPi⟩ := Cond.selects_spec hsel
  cases hcls.symm.trans q1
  cases (State.methodFound?_of_named hnamed hy).symm.trans q2
  cases hnamed.symm.trans q3
  have hselP : selectMethod e.platform s.vm cellB.cls mk = .method mk := by rw [Launch.admits_selectMethod X.admits]; exact q4
  obtain ⟨vm₁, X₁, hstep₁⟩ := X.invokevirtual hexec hown hlink hnamed hmethM hstM hkP hkPi hy (a := b) (cell := cellB) hcell
    (fun z h => by rw [h] at hobj; cases hobj) hselP hmethM habM hkP hkPi (g := g) hg (argsL := argsL) (rest := rest) (hlen _ hsigM) hstack hdg
  obtain ⟨v, B, X', hpost, hsteps⟩ := hK m meth c ⟨T.setVm vm₁, locs, cells, slots⟩ { g with stack := rest } (.invokevirtual index) mk (Value.ref b :: argsL).toArray X₁ hg hsize hdg hW (X₁.named hnamed) (hpre vm₁ X₁.warmed)
  exact ⟨v, vm₁, B, X₁.warmed, X', hpost, fun target h => hstep₁ _ fun acts => by rw [doInvoke_state]; exact hsteps.trans h⟩
abbrev vx_CVW (R : Room) (s : State) (args : Array Value) (own C : String) (index : Nat) (y : MethodName) (bytes : ByteArray) (maxL : Nat) (ret : Option FieldType) (hh : List (Nat × Nat × Nat × Nat)) (ws : List Cond) (rm : Room) (mc ms n : Nat) : Prop :=
  (rm.cells = mc ∧ rm.slots = ms ∧ rm.frames + 1 ≤ R.frames ∧ 8 + (maxL + 11) + rm.locals ≤ R.locals ∧ (∀ w ∈ ws, ∀ (a' : Array Value) (U : State), s.WarmedH U.vm → w.before a' U = true) ∧ Cond.codeWith y bytes maxL ret hh ∈ ws) ∧
  (Cond.codeWith y bytes maxL ret hh).before args s = true ∧ (Cond.initialized y.cls).before args s = true ∧ (y.cls ≠ "java/lang/invoke/MethodHandle" ∧ y.cls ≠ "java/lang/invoke/VarHandle") ∧
  (∀ sig, parseMethodDescriptor y.desc = some sig → n = sig.parameters.length) ∧ (Cond.methodLink own index y).before args s = true ∧ (Cond.instanceMethod y).before args s = true ∧ (Cond.selects C y y).before args s = true
theorem vx_cwVW {own C : String} {index maxL mc ms : Nat} {y : MethodName} {bytes : ByteArray} {ret : Option FieldType} {hh : List (Nat × Nat × Nat × Nat)} {Ts ws ws' : List Cond} {rm : Room} (n : Nat) (ht : ∀ w ∈ Ts, w.before args s = true) (hT : GoodIn Ts (wsV own index C y ws)) (hw : ws = Cond.codeWith y bytes maxL ret hh :: ws') (hrc : rm.cells = mc) (hrs : rm.slots = ms)
    (hd : y.cls = C ∧ y.cls ≠ "java/lang/invoke/MethodHandle" ∧ y.cls ≠ "java/lang/invoke/VarHandle" ∧ (parseMethodDescriptor y.desc).map (fun d => d.parameters.length) = some n) (hR : rm.frames + 1 ≤ R.frames ∧ 8 + (maxL + 11) + rm.locals ≤ R.locals) :
    vx_CVW R s args own C index y bytes maxL ret hh ws rm mc ms n := by
  obtain ⟨hC, hd⟩ := hd
  subst hC
  have ok : ∀ w ∈ wsV own index y.cls y ws, w.before args s = true := fun w h => ht w (hT w h).1
  have hG : GoodIn Ts ws := fun w h => hT w (by unfold wsV; exact List.mem_append_right _ h)
  have hc : Cond.codeWith y bytes maxL ret hh ∈ ws := by rw [hw]; exact List.mem_cons_self
  refine ⟨⟨hrc, hrs, hR.1, hR.2, pay_in ht hG, hc⟩, ht _ (hG _ hc).1, ok _ (by simp [wsV]), ⟨hd.1, hd.2.1⟩, fun sig h => ?_, ok _ (by simp [wsV]), ok _ (by simp [wsV]), ok _ (by simp [wsV])⟩
  have h2 := hd.2.2
  rw [h] at h2
  exact (Option.some.inj h2).symm
theorem vx_runVW {y : MethodName} {bytes cc : ByteArray} {maxL nL mc ms n index : Nat} {ret : Option FieldType} {hh : List (Nat × Nat × Nat × Nat)} {ws : List Cond} {rm : Room} {Pc : Array Value → State → Prop} {Qc : Array Value → State → Outcome → State → Prop} {free : Addr → Prop} {Ts : List Cond} {own C : String} {b : Addr} {As rest : List Value} {g : JFrame}
    (S : CallFix p m c cc nL s args Ts own) (hM : Met l y ws rm Pc Qc mc ms free) (cw : vx_CVW R s args own C index y bytes maxL ret hh ws rm mc ms n) (hp : PreV s H C b Pc As)
    (hg : g.method = m) (hn : As.length = n) (hsize : g.locals.size = nL) (hstack : g.stack = As.reverse ++ .ref b :: rest) (hW : 2 * g.monitorRoom + (rest.map fun v => v.category).sum ≤ 8) (hdg : decode cc g.pc = .ok (.invokevirtual index, 3)) (hf : cells + mc ≤ R.cells ∧ slots + ms ≤ R.slots) :
    va_Run p l e R s m args below meth c H locs cells slots mc ms g rest (Qc (Value.ref b :: As).toArray) free := by
  obtain ⟨⟨hrc, hrs, hfr, hlo, hws, hcw⟩, hcode, hini, hy, hlen, hl, hin, hse⟩ := cw
  have hK : Back l R p e below s args y 3 8 (PreOf R mc ms Pc) (PostOf Qc mc ms free) := va_backW (hh := hh) (bytes := bytes) (maxL := maxL) (ret := ret) hM hp.1 hrc hrs hfr hlo hws hcw (fun a' U hW => word_at hW (Or.inl (by first | rfl | simp [Cond.onTables, Cond.keeps, Cond.steady])) hini)
  obtain ⟨hx, hb, hml, ho, -⟩ := S
  obtain ⟨-, ⟨cellB, hcB, hoB, hclB⟩, hPc⟩ := hp
  intro T hT X
  obtain ⟨v, vm₁, ⟨U', l2, c2, s2⟩, hW₁, X', ⟨g', mk, t, L, e1, e2, hq, h1, hL, h2, h3⟩, st⟩ := vx_callVW X hx (C := C) (hh := hh) (bytes := bytes) (maxL := maxL) (ret := ret) ho hl hin hse hcode hy hK (by rw [hT]; exact hcB) hoB hclB hg (hsize.trans hml.symm) (argsL := As) (rest := rest) (fun sig h => hn.trans (hlen sig h)) hstack hW (by rw [hb]; exact hdg)
    (fun vm₁ hW₁ => ⟨hf.1, hf.2, hPc (T.setVm vm₁) hT hW₁⟩)
  dsimp only [Pt.U, Pt.locs, Pt.cells, Pt.slots] at X' e1 e2 h1 h2 h3 st
  subst h1; subst h2; subst h3
  exact ⟨v, (T.setVm vm₁).calling g' mk (Value.ref b :: As).toArray, t, U', L, hT, X', hL, e1, e2, hq, st⟩
section
variable {y : MethodName} {bytes cc : ByteArray} {maxL nL mc ms n index : Nat} {ret : Option FieldType} {ws : List Cond} {rm : Room} {Pc : Array Value → State → Prop} {Qc : Array Value → State → Outcome → State → Prop} {XC : String → State → State → Prop} {free : Addr → Prop} {Ts : List Cond} {own C : String} {b : Addr} {As rest : List Value} {g : JFrame}
theorem vx_runVX {hh : List (Nat × Nat × Nat × Nat)} (S : CallFix p m c cc nL s args Ts own) (hM : vx_Met l y ws rm Pc Qc XC mc ms free) (cw : vx_CVW R s args own C index y bytes maxL ret hh ws rm mc ms n) (hp : PreV s H C b Pc As)
    (hg : g.method = m) (hn : As.length = n) (hsize : g.locals.size = nL) (hstack : g.stack = As.reverse ++ .ref b :: rest) (hW : 2 * g.monitorRoom + (rest.map fun v => v.category).sum ≤ 8) (hdg : decode cc g.pc = .ok (.invokevirtual index, 3)) (hf : cells + mc ≤ R.cells ∧ slots + ms ≤ R.slots) :
    vx_Run p l e R s m args below meth c H locs cells slots mc ms g rest (Qc (Value.ref b :: As).toArray) XC free := by
  obtain ⟨⟨hrc, hrs, hfr, hlo, hws, hcw⟩, hcode, hini, hy, hlen, hl, hin, hse⟩ := cw
  have hK : vx_Back l R p e below s args y 3 8 (PreOf R mc ms Pc) (PostOf Qc mc ms free) (vx_Post XC mc ms free) := vx_backW (hh := hh) (bytes := bytes) (maxL := maxL) (ret := ret) hM hp.1 hrc hrs hfr hlo hws hcw (fun a' U hW => word_at hW (Or.inl (by first | rfl | simp [Cond.onTables, Cond.keeps, Cond.steady])) hini)
  obtain ⟨hx, hb, hml, ho, -⟩ := S
  obtain ⟨-, ⟨cellB, hcB, hoB, hclB⟩, hPc⟩ := hp
  intro T hT X
  rcases vx_callVX X hx (C := C) (hh := hh) (bytes := bytes) (maxL := maxL) (ret := ret) ho hl hin hse hcode hy hK (by rw [hT]; exact hcB) hoB hclB hg (hsize.trans hml.symm) (argsL := As) (rest := rest) (fun sig h => hn.trans (hlen sig h)) hstack hW (by rw [hb]; exact hdg)
    (fun vm₁ hW₁ => ⟨hf.1, hf.2, hPc (T.setVm vm₁) hT hW₁⟩) with ⟨v, vm₁, ⟨U', l2, c2, s2⟩, hW₁, X', ⟨g', mk, t, L, e1, e2, hq, h1, hL, h2, h3⟩, st⟩ | ⟨q, vm₁, ⟨U', l2, c2, s2⟩, hW₁, X', ⟨g', mk, t, L, E, ce, e1, e2, hq, hce, hcv, hcl, h1, hL, h2, h3⟩, st⟩
  · dsimp only [Pt.U, Pt.locs, Pt.cells, Pt.slots] at X' e1 e2 h1 h2 h3 st
    subst h1; subst h2; subst h3
    exact Or.inl ⟨v, (T.setVm vm₁).calling g' mk (Value.ref b :: As).toArray, t, U', L, hT, X', hL, e1, e2, hq, st⟩
  · dsimp only [Pt.U, Pt.locs, Pt.cells, Pt.slots] at X' e1 e2 h1 h2 h3 st hcl
    subst h1; subst h2; subst h3
    exact Or.inr ⟨q, (T.setVm vm₁).calling g' mk (Value.ref b :: As).toArray, t, U', L, E, ce, hT, X', hL, e1, e2, hq, hce, hcv, vx_cls hW₁ hcl, st⟩
theorem vx_runSX {hh : List (Nat × Nat × Nat × Nat)} (S : CallFix p m c cc nL s args Ts own) (hM : vx_Met l y ws rm Pc Qc XC mc ms free) (cw : vx_CSW R s args own index y bytes maxL ret hh ws rm mc ms n) (hp : PreS s H Pc As)
    (hg : g.method = m) (hn : As.length = n) (hsize : g.locals.size = nL) (hstack : g.stack = As.reverse ++ rest) (hW : 2 * g.monitorRoom + (rest.map fun v => v.category).sum ≤ 8) (hdg : decode cc g.pc = .ok (.invokestatic index, 3)) (hf : cells + mc ≤ R.cells ∧ slots + ms ≤ R.slots) :
    vx_Run p l e R s m args below meth c H locs cells slots mc ms g rest (Qc As.toArray) XC free := by
  obtain ⟨⟨hrc, hrs, hfr, hlo, hws, hcw⟩, hcode, hini, hy, hlen, hl, hstt⟩ := cw
  have hK : vx_Back l R p e below s args y 3 8 (PreOf R mc ms Pc) (PostOf Qc mc ms free) (vx_Post XC mc ms free) := vx_backW (hh := hh) (bytes := bytes) (maxL := maxL) (ret := ret) hM hp.1 hrc hrs hfr hlo hws hcw (fun a' U hW => word_at hW (Or.inl (by first | rfl | simp [Cond.onTables, Cond.keeps, Cond.steady])) hini)
  obtain ⟨hx, hb, hml, ho, -⟩ := S
  intro T hT X
  rcases vx_callSX X hx (hh := hh) (bytes := bytes) (maxL := maxL) (ret := ret) ho hl hstt hini hcode hy hK hg (hsize.trans hml.symm) (argsL := As) (rest := rest) (fun sig h => hn.trans (hlen sig h)) hstack hW (by rw [hb]; exact hdg)
    (fun vm₁ hW₁ => ⟨hf.1, hf.2, hp.2 (T.setVm vm₁) hT hW₁⟩) with ⟨v, vm₁, ⟨U', l2, c2, s2⟩, hW₁, X', ⟨g', mk, t, L, e1, e2, hq, h1, hL, h2, h3⟩, st⟩ | ⟨q, vm₁, ⟨U', l2, c2, s2⟩, hW₁, X', ⟨g', mk, t, L, E, ce, e1, e2, hq, hce, hcv, hcl, h1, hL, h2, h3⟩, st⟩
  · dsimp only [Pt.U, Pt.locs, Pt.cells, Pt.slots] at X' e1 e2 h1 h2 h3 st
    subst h1; subst h2; subst h3
    exact Or.inl ⟨v, (T.setVm vm₁).calling g' mk As.toArray, t, U', L, hT, X', hL, e1, e2, hq, st⟩
  · dsimp only [Pt.U, Pt.locs, Pt.cells, Pt.slots] at X' e1 e2 h1 h2 h3 st hcl
    subst h1; subst h2; subst h3
    exact Or.inr ⟨q, (T.setVm vm₁).calling g' mk As.toArray, t, U', L, E, ce, hT, X', hL, e1, e2, hq, hce, hcv, vx_cls hW₁ hcl, st⟩
end
end VXH
theorem vx_ofWH {l : Launch} {y : MethodName} {ws ws' : List Cond} {rm : Room} {Pc : Array Value → State → Prop} {Qc : Array Value → State → Outcome → State → Prop} {XC : String → State → State → Prop} {mc ms : Nat} {free : Addr → Prop} {cc : ByteArray} {maxL : Nat} {ret : Option FieldType} {hh : List (Nat × Nat × Nat × Nat)}
    (hy : plainName y.cls = true) (hw : ws = Cond.codeWith y cc maxL ret hh :: ws')
    (body : ∀ p e s m args below meth c s₁, BodyLoose p l y (headSpec ws rm) cc maxL ret e s m args below meth c s₁ → c.maxLocals = maxL → Pc args s →
      W p l e (headSpec ws rm).room s m args below meth c s.heap [] 0 0 (vx_MQ below Qc XC args s mc ms free) (entryFrame m args maxL)) : vx_Met l y ws rm Pc Qc XC mc ms free := by
  refine MetFree.of_bodyS (code := cc) (maxLocals := maxL) (ret := ret) hy ?_ ?_
  · intro args s m h hn
    obtain ⟨m9, meth, c, hn9, h1, h2, h3, h4, -, h5, h6, -⟩ := Cond.codeWith_spec (atoms_spec (ws := ws) h _ (by rw [hw]; exact List.mem_cons_self))
    cases hn.symm.trans hn9
    exact ⟨meth, c, h1, h2, h3, h4, h5, h6⟩
  · intro p e s m args below meth c s₁ B hml hP _
    have hh0 : s₁.heap = s.heap := by rw [B.state]; rfl
    obtain ⟨t, a1, o, b1, b2, b3⟩ := body p e s m args below meth c s₁ B hml hP s₁ hh0 (Stand.of_body B)
    exact ⟨t, o, a1, b1, b2, b3⟩
/-! ===== END ===== -/

def RX0 : String := "TurnsHall$Bits"
def TX0 : u_T := fun k => match k with
  | _ => ("", "", "", false)
def tyX0 : Nat → FieldType := fun k => match k with
  | _ => .int
abbrev wsX00 : List Cond := u_ws RX0 TX0 0
theorem nmX0 : ∀ a, a < 0 → ∀ b, b < 0 → a ≠ b → (TX0 a).2.1 ≠ (TX0 b).2.1 := by decide +kernel
theorem tyX0_ok : ∀ k, k < 0 → parseFieldDescriptor (TX0 k).2.2.1 = some (tyX0 k) := by decide +kernel
abbrev cX0_one : ByteArray := prog_2_method_2_code
def yX0_one : MethodName := ⟨RX0, "one", "(I)I"⟩
abbrev cX0_firstOnes : ByteArray := prog_2_method_3_code
def yX0_firstOnes : MethodName := ⟨RX0, "firstOnes", "(I)I"⟩
abbrev cX0_has : ByteArray := prog_2_method_4_code
def yX0_has : MethodName := ⟨RX0, "has", "(II)Z"⟩
abbrev cX0_lowest : ByteArray := prog_2_method_5_code
def yX0_lowest : MethodName := ⟨RX0, "lowest", "(I)I"⟩
def RX1 : String := "TurnsHall$Cells"
def TX1 : u_T := fun k => match k with
  | _ => ("", "", "", false)
def tyX1 : Nat → FieldType := fun k => match k with
  | _ => .int
abbrev wsX10 : List Cond := u_ws RX1 TX1 0
theorem nmX1 : ∀ a, a < 0 → ∀ b, b < 0 → a ≠ b → (TX1 a).2.1 ≠ (TX1 b).2.1 := by decide +kernel
theorem tyX1_ok : ∀ k, k < 0 → parseFieldDescriptor (TX1 k).2.2.1 = some (tyX1 k) := by decide +kernel
abbrev cX1_get : ByteArray := prog_3_method_2_code
def yX1_get : MethodName := ⟨RX1, "get", "([II)I"⟩
abbrev cX1_set : ByteArray := prog_3_method_3_code
def yX1_set : MethodName := ⟨RX1, "set", "([III)V"⟩
abbrev cX1_exchange : ByteArray := prog_3_method_4_code
def yX1_exchange : MethodName := ⟨RX1, "exchange", "([III)V"⟩
def RX2 : String := "TurnsHall$Drawing"
def TX2 : u_T := fun k => match k with
  | 0 => ("TurnsHall$Drawing", "signs", "LTurnsHall$Signs;", true)
  | 1 => ("TurnsHall$Drawing", "xs", "[I", true)
  | 2 => ("TurnsHall$Drawing", "ys", "[I", true)
  | 3 => ("TurnsHall$Drawing", "numbered", "Z", false)
  | 4 => ("TurnsHall$Drawing", "edges", "I", false)
  | _ => ("TurnsHall$Drawing", "triangulated", "Z", false)
def tyX2 : Nat → FieldType := fun k => match k with
  | 0 => .object "TurnsHall$Signs"
  | 1 => .array .int
  | 2 => .array .int
  | 3 => .boolean
  | 4 => .int
  | _ => .boolean
abbrev wsX20 : List Cond := u_ws RX2 TX2 6
theorem nmX2 : ∀ a, a < 6 → ∀ b, b < 6 → a ≠ b → (TX2 a).2.1 ≠ (TX2 b).2.1 := by decide +kernel
theorem tyX2_ok : ∀ k, k < 6 → parseFieldDescriptor (TX2 k).2.2.1 = some (tyX2 k) := by decide +kernel
abbrev cX2_init : ByteArray := prog_4_method_1_code
def yX2_init : MethodName := ⟨RX2, "<init>", "()V"⟩
abbrev cX2_giveNumbers : ByteArray := prog_4_method_2_code
def yX2_giveNumbers : MethodName := ⟨RX2, "giveNumbers", "(LTurnsHall$Shelf;)V"⟩
abbrev cX2_hasEdge : ByteArray := prog_4_method_3_code
def yX2_hasEdge : MethodName := ⟨RX2, "hasEdge", "(II)Z"⟩
abbrev cX2_isCorner : ByteArray := prog_4_method_4_code
def yX2_isCorner : MethodName := ⟨RX2, "isCorner", "(IIII)Z"⟩
def RX3 : String := "TurnsHall$Hulls"
def TX3 : u_T := fun k => match k with
  | _ => ("", "", "", false)
def tyX3 : Nat → FieldType := fun k => match k with
  | _ => .int
abbrev wsX30 : List Cond := u_ws RX3 TX3 0
theorem nmX3 : ∀ a, a < 0 → ∀ b, b < 0 → a ≠ b → (TX3 a).2.1 ≠ (TX3 b).2.1 := by decide +kernel
theorem tyX3_ok : ∀ k, k < 0 → parseFieldDescriptor (TX3 k).2.2.1 = some (tyX3 k) := by decide +kernel
abbrev cX3_after : ByteArray := prog_5_method_2_code
def yX3_after : MethodName := ⟨RX3, "after", "(LTurnsHall$Signs;II)I"⟩
abbrev cX3_isSide : ByteArray := prog_5_method_3_code
def yX3_isSide : MethodName := ⟨RX3, "isSide", "(LTurnsHall$Signs;III)Z"⟩
abbrev cX3_of : ByteArray := prog_5_method_4_code
def yX3_of : MethodName := ⟨RX3, "of", "(LTurnsHall$Signs;I)I"⟩
def RX4 : String := "TurnsHall$Naming"
def TX4 : u_T := fun k => match k with
  | 0 => ("TurnsHall$Naming", "named", "[I", true)
  | 1 => ("TurnsHall$Naming", "signs", "LTurnsHall$Signs;", false)
  | 2 => ("TurnsHall$Naming", "factor", "I", false)
  | _ => ("TurnsHall$Naming", "least", "J", false)
def tyX4 : Nat → FieldType := fun k => match k with
  | 0 => .array .int
  | 1 => .object "TurnsHall$Signs"
  | 2 => .int
  | _ => .long
abbrev wsX40 : List Cond := u_ws RX4 TX4 4
theorem nmX4 : ∀ a, a < 4 → ∀ b, b < 4 → a ≠ b → (TX4 a).2.1 ≠ (TX4 b).2.1 := by decide +kernel
theorem tyX4_ok : ∀ k, k < 4 → parseFieldDescriptor (TX4 k).2.2.1 = some (tyX4 k) := by decide +kernel
abbrev cX4_init : ByteArray := prog_6_method_1_code
def yX4_init : MethodName := ⟨RX4, "<init>", "()V"⟩
def RX5 : String := "TurnsHall$Segments"
def TX5 : u_T := fun k => match k with
  | 0 => ("TurnsHall$Segments", "crossing", "[I", true)
  | _ => ("TurnsHall$Segments", "points", "I", false)
def tyX5 : Nat → FieldType := fun k => match k with
  | 0 => .array .int
  | _ => .int
abbrev wsX50 : List Cond := u_ws RX5 TX5 2
theorem nmX5 : ∀ a, a < 2 → ∀ b, b < 2 → a ≠ b → (TX5 a).2.1 ≠ (TX5 b).2.1 := by decide +kernel
theorem tyX5_ok : ∀ k, k < 2 → parseFieldDescriptor (TX5 k).2.2.1 = some (tyX5 k) := by decide +kernel
abbrev cX5_init : ByteArray := prog_7_method_1_code
def yX5_init : MethodName := ⟨RX5, "<init>", "()V"⟩
abbrev cX5_index : ByteArray := prog_7_method_2_code
def yX5_index : MethodName := ⟨RX5, "index", "(II)I"⟩
abbrev cX5_bit : ByteArray := prog_7_method_3_code
def yX5_bit : MethodName := ⟨RX5, "bit", "(II)I"⟩
abbrev cX5_read : ByteArray := prog_7_method_4_code
def yX5_read : MethodName := ⟨RX5, "read", "(LTurnsHall$Signs;)V"⟩
abbrev cX5_note : ByteArray := prog_7_method_5_code
def yX5_note : MethodName := ⟨RX5, "note", "(LTurnsHall$Signs;IIII)V"⟩
abbrev cX5_crossesNone : ByteArray := prog_7_method_6_code
def yX5_crossesNone : MethodName := ⟨RX5, "crossesNone", "(III)Z"⟩
abbrev cX5_pairsCrossing : ByteArray := prog_7_method_7_code
def yX5_pairsCrossing : MethodName := ⟨RX5, "pairsCrossing", "()I"⟩
abbrev cX5_waysToMatch : ByteArray := prog_7_method_8_code
def yX5_waysToMatch : MethodName := ⟨RX5, "waysToMatch", "(LTurnsHall$Segments;III)I"⟩
abbrev cX5_firstTriangulation : ByteArray := prog_7_method_10_code
def yX5_firstTriangulation : MethodName := ⟨RX5, "firstTriangulation", "()I"⟩
def RX6 : String := "TurnsHall$Shelf"
def TX6 : u_T := fun k => match k with
  | 0 => ("TurnsHall$Shelf", "xs", "[I", true)
  | 1 => ("TurnsHall$Shelf", "ys", "[I", true)
  | _ => ("TurnsHall$Shelf", "count", "I", false)
def tyX6 : Nat → FieldType := fun k => match k with
  | 0 => .array .int
  | 1 => .array .int
  | _ => .int
abbrev wsX60 : List Cond := u_ws RX6 TX6 3
theorem nmX6 : ∀ a, a < 3 → ∀ b, b < 3 → a ≠ b → (TX6 a).2.1 ≠ (TX6 b).2.1 := by decide +kernel
theorem tyX6_ok : ∀ k, k < 3 → parseFieldDescriptor (TX6 k).2.2.1 = some (tyX6 k) := by decide +kernel
abbrev cX6_init : ByteArray := prog_8_method_1_code
def yX6_init : MethodName := ⟨RX6, "<init>", "()V"⟩
abbrev cX6_takes : ByteArray := prog_8_method_2_code
def yX6_takes : MethodName := ⟨RX6, "takes", "(II)Z"⟩
abbrev cX6_put : ByteArray := prog_8_method_3_code
def yX6_put : MethodName := ⟨RX6, "put", "(II)V"⟩
abbrev cX6_xOf : ByteArray := prog_8_method_4_code
def yX6_xOf : MethodName := ⟨RX6, "xOf", "(I)I"⟩
abbrev cX6_yOf : ByteArray := prog_8_method_5_code
def yX6_yOf : MethodName := ⟨RX6, "yOf", "(I)I"⟩
abbrev cX6_turn : ByteArray := prog_8_method_6_code
def yX6_turn : MethodName := ⟨RX6, "turn", "(IIII)I"⟩
abbrev cX6_turnOf : ByteArray := prog_8_method_7_code
def yX6_turnOf : MethodName := ⟨RX6, "turnOf", "(III)I"⟩
abbrev cX6_tell : ByteArray := prog_8_method_8_code
def yX6_tell : MethodName := ⟨RX6, "tell", "(LTurnsHall$Signs;)V"⟩
def RX7 : String := "TurnsHall$Signs"
def TX7 : u_T := fun k => match k with
  | 0 => ("TurnsHall$Signs", "table", "[I", true)
  | _ => ("TurnsHall$Signs", "count", "I", false)
def tyX7 : Nat → FieldType := fun k => match k with
  | 0 => .array .int
  | _ => .int
abbrev wsX70 : List Cond := u_ws RX7 TX7 2
theorem nmX7 : ∀ a, a < 2 → ∀ b, b < 2 → a ≠ b → (TX7 a).2.1 ≠ (TX7 b).2.1 := by decide +kernel
theorem tyX7_ok : ∀ k, k < 2 → parseFieldDescriptor (TX7 k).2.2.1 = some (tyX7 k) := by decide +kernel
abbrev cX7_init : ByteArray := prog_9_method_1_code
def yX7_init : MethodName := ⟨RX7, "<init>", "()V"⟩
abbrev cX7_of : ByteArray := prog_9_method_2_code
def yX7_of : MethodName := ⟨RX7, "of", "(III)I"⟩
abbrev cX7_cell : ByteArray := prog_9_method_3_code
def yX7_cell : MethodName := ⟨RX7, "cell", "(III)I"⟩
abbrev cX7_put : ByteArray := prog_9_method_4_code
def yX7_put : MethodName := ⟨RX7, "put", "(IIII)V"⟩
abbrev cX7_take : ByteArray := prog_9_method_5_code
def yX7_take : MethodName := ⟨RX7, "take", "(LTurnsHall$Signs;I)V"⟩
abbrev cX7_exchange : ByteArray := prog_9_method_7_code
def yX7_exchange : MethodName := ⟨RX7, "exchange", "(II)V"⟩
abbrev cX7_turnOver : ByteArray := prog_9_method_8_code
def yX7_turnOver : MethodName := ⟨RX7, "turnOver", "(III)Z"⟩
abbrev cX7_fits : ByteArray := prog_9_method_9_code
def yX7_fits : MethodName := ⟨RX7, "fits", "(III)Z"⟩
abbrev cX7_fourHold : ByteArray := prog_9_method_10_code
def yX7_fourHold : MethodName := ⟨RX7, "fourHold", "(IIII)Z"⟩
abbrev cX7_fiveHoldAround : ByteArray := prog_9_method_11_code
def yX7_fiveHoldAround : MethodName := ⟨RX7, "fiveHoldAround", "(IIIII)Z"⟩
abbrev cX7_fiveHold : ByteArray := prog_9_method_12_code
def yX7_fiveHold : MethodName := ⟨RX7, "fiveHold", "(IIIII)Z"⟩
abbrev cX7_crosses : ByteArray := prog_9_method_14_code
def yX7_crosses : MethodName := ⟨RX7, "crosses", "(IIII)Z"⟩
abbrev cX7_noneWithin : ByteArray := prog_9_method_15_code
def yX7_noneWithin : MethodName := ⟨RX7, "noneWithin", "(III)Z"⟩
abbrev cX7_isWithin : ByteArray := prog_9_method_16_code
def yX7_isWithin : MethodName := ⟨RX7, "isWithin", "(IIII)Z"⟩
abbrev cX7_lesserSide : ByteArray := prog_9_method_17_code
def yX7_lesserSide : MethodName := ⟨RX7, "lesserSide", "(II)I"⟩
def RX8 : String := "TurnsHall$Word"
def TX8 : u_T := fun k => match k with
  | 0 => ("TurnsHall$Word", "letters", "[I", true)
  | 1 => ("TurnsHall$Word", "lineAt", "[I", true)
  | 2 => ("TurnsHall$Word", "crossedBy", "[I", true)
  | _ => ("TurnsHall$Word", "count", "I", false)
def tyX8 : Nat → FieldType := fun k => match k with
  | 0 => .array .int
  | 1 => .array .int
  | 2 => .array .int
  | _ => .int
abbrev wsX80 : List Cond := u_ws RX8 TX8 4
theorem nmX8 : ∀ a, a < 4 → ∀ b, b < 4 → a ≠ b → (TX8 a).2.1 ≠ (TX8 b).2.1 := by decide +kernel
theorem tyX8_ok : ∀ k, k < 4 → parseFieldDescriptor (TX8 k).2.2.1 = some (tyX8 k) := by decide +kernel
abbrev cX8_init : ByteArray := prog_10_method_1_code
def yX8_init : MethodName := ⟨RX8, "<init>", "()V"⟩
def RX9 : String := "TurnsHall"
def TX9 : u_T := fun k => match k with
  | 0 => ("TurnsHall", "shelf", "LTurnsHall$Shelf;", true)
  | 1 => ("TurnsHall", "word", "LTurnsHall$Word;", true)
  | 2 => ("TurnsHall", "hall", "[LTurnsHall$Drawing;", true)
  | 3 => ("TurnsHall", "made", "I", false)
  | 4 => ("TurnsHall", "segments", "LTurnsHall$Segments;", true)
  | 5 => ("TurnsHall", "naming", "LTurnsHall$Naming;", true)
  | _ => ("TurnsHall", "extended", "LTurnsHall$Signs;", true)
def tyX9 : Nat → FieldType := fun k => match k with
  | 0 => .object "TurnsHall$Shelf"
  | 1 => .object "TurnsHall$Word"
  | 2 => .array (.object "TurnsHall$Drawing")
  | 3 => .int
  | 4 => .object "TurnsHall$Segments"
  | 5 => .object "TurnsHall$Naming"
  | _ => .object "TurnsHall$Signs"
abbrev wsX90 : List Cond := u_ws RX9 TX9 7
theorem nmX9 : ∀ a, a < 7 → ∀ b, b < 7 → a ≠ b → (TX9 a).2.1 ≠ (TX9 b).2.1 := by decide +kernel
theorem tyX9_ok : ∀ k, k < 7 → parseFieldDescriptor (TX9 k).2.2.1 = some (tyX9 k) := by decide +kernel
abbrev cX9_init : ByteArray := prog_1_method_1_code
def yX9_init : MethodName := ⟨RX9, "<init>", "()V"⟩
abbrev cX9_place : ByteArray := prog_1_method_2_code
def yX9_place : MethodName := ⟨RX9, "place", "(II)I"⟩
abbrev cX9_clear : ByteArray := prog_1_method_3_code
def yX9_clear : MethodName := ⟨RX9, "clear", "()I"⟩
abbrev cX9_draw : ByteArray := prog_1_method_8_code
def yX9_draw : MethodName := ⟨RX9, "draw", "()I"⟩
abbrev cX9_copy : ByteArray := prog_1_method_10_code
def yX9_copy : MethodName := ⟨RX9, "copy", "(IZ)I"⟩
abbrev cX9_flip : ByteArray := prog_1_method_11_code
def yX9_flip : MethodName := ⟨RX9, "flip", "(IIII)Z"⟩
abbrev cX9_rename : ByteArray := prog_1_method_12_code
def yX9_rename : MethodName := ⟨RX9, "rename", "(III)V"⟩
abbrev cX9_slot : ByteArray := prog_1_method_14_code
def yX9_slot : MethodName := ⟨RX9, "slot", "(I)LTurnsHall$Drawing;"⟩
abbrev cX9_known : ByteArray := prog_1_method_15_code
def yX9_known : MethodName := ⟨RX9, "known", "(I)LTurnsHall$Drawing;"⟩
abbrev cX9_checkPoint : ByteArray := prog_1_method_16_code
def yX9_checkPoint : MethodName := ⟨RX9, "checkPoint", "(LTurnsHall$Drawing;I)V"⟩
abbrev cX9_unused : ByteArray := prog_1_method_17_code
def yX9_unused : MethodName := ⟨RX9, "unused", "()LTurnsHall$Drawing;"⟩
abbrev cX9_finished : ByteArray := prog_1_method_18_code
def yX9_finished : MethodName := ⟨RX9, "finished", "()I"⟩
abbrev cX9_drawings : ByteArray := prog_1_method_19_code
def yX9_drawings : MethodName := ⟨RX9, "drawings", "()I"⟩
abbrev cX9_points : ByteArray := prog_1_method_20_code
def yX9_points : MethodName := ⟨RX9, "points", "(I)I"⟩
abbrev cX9_hasNumbers : ByteArray := prog_1_method_21_code
def yX9_hasNumbers : MethodName := ⟨RX9, "hasNumbers", "(I)Z"⟩
abbrev cX9_number : ByteArray := prog_1_method_22_code
def yX9_number : MethodName := ⟨RX9, "number", "(IIZ)I"⟩
abbrev cX9_sign : ByteArray := prog_1_method_23_code
def yX9_sign : MethodName := ⟨RX9, "sign", "(IIII)I"⟩
abbrev cX9_flips : ByteArray := prog_1_method_24_code
def yX9_flips : MethodName := ⟨RX9, "flips", "(I)I"⟩
abbrev cX9_hull : ByteArray := prog_1_method_25_code
def yX9_hull : MethodName := ⟨RX9, "hull", "(II)I"⟩
abbrev cX9_layer : ByteArray := prog_1_method_26_code
def yX9_layer : MethodName := ⟨RX9, "layer", "(II)I"⟩
abbrev cX9_cross : ByteArray := prog_1_method_27_code
def yX9_cross : MethodName := ⟨RX9, "cross", "(IIIII)Z"⟩
abbrev cX9_crossings : ByteArray := prog_1_method_28_code
def yX9_crossings : MethodName := ⟨RX9, "crossings", "(I)I"⟩
abbrev cX9_empties : ByteArray := prog_1_method_29_code
def yX9_empties : MethodName := ⟨RX9, "empties", "(I)I"⟩
abbrev cX9_level : ByteArray := prog_1_method_30_code
def yX9_level : MethodName := ⟨RX9, "level", "(II)I"⟩
abbrev cX9_matchings : ByteArray := prog_1_method_31_code
def yX9_matchings : MethodName := ⟨RX9, "matchings", "(II)I"⟩
abbrev cX9_triangulate : ByteArray := prog_1_method_35_code
def yX9_triangulate : MethodName := ⟨RX9, "triangulate", "(I)I"⟩
abbrev cX9_flipEdge : ByteArray := prog_1_method_36_code
def yX9_flipEdge : MethodName := ⟨RX9, "flipEdge", "(III)I"⟩
abbrev cX9_edge : ByteArray := prog_1_method_37_code
def yX9_edge : MethodName := ⟨RX9, "edge", "(III)Z"⟩
def RX10 : String := "TurnsHallModel"
def TX10 : u_T := fun k => match k with
  | _ => ("", "", "", false)
def tyX10 : Nat → FieldType := fun k => match k with
  | _ => .int
abbrev wsX100 : List Cond := u_ws RX10 TX10 0
theorem nmX10 : ∀ a, a < 0 → ∀ b, b < 0 → a ≠ b → (TX10 a).2.1 ≠ (TX10 b).2.1 := by decide +kernel
theorem tyX10_ok : ∀ k, k < 0 → parseFieldDescriptor (TX10 k).2.2.1 = some (tyX10 k) := by decide +kernel
def RJ6 : String := "java/lang/Integer"
def TJ6 : u_T := fun k => match k with
  | _ => ("", "", "", false)
def tyJ6 : Nat → FieldType := fun k => match k with
  | _ => .int
abbrev wsJ60 : List Cond := u_ws RJ6 TJ6 0
theorem nmJ6 : ∀ a, a < 0 → ∀ b, b < 0 → a ≠ b → (TJ6 a).2.1 ≠ (TJ6 b).2.1 := by decide +kernel
theorem tyJ6_ok : ∀ k, k < 0 → parseFieldDescriptor (TJ6 k).2.2.1 = some (tyJ6 k) := by decide +kernel
abbrev cJ6_compare_7cf53 : ByteArray := prog_17_method_40_code
def yJ6_compare_7cf53 : MethodName := ⟨RJ6, "compare", "(II)I"⟩
abbrev cJ6_bitCount_0f7a4 : ByteArray := prog_17_method_49_code
def yJ6_bitCount_0f7a4 : MethodName := ⟨RJ6, "bitCount", "(I)I"⟩
def RJ9 : String := "java/lang/Math"
def TJ9 : u_T := fun k => match k with
  | _ => ("", "", "", false)
def tyJ9 : Nat → FieldType := fun k => match k with
  | _ => .int
abbrev wsJ90 : List Cond := u_ws RJ9 TJ9 0
theorem nmJ9 : ∀ a, a < 0 → ∀ b, b < 0 → a ≠ b → (TJ9 a).2.1 ≠ (TJ9 b).2.1 := by decide +kernel
theorem tyJ9_ok : ∀ k, k < 0 → parseFieldDescriptor (TJ9 k).2.2.1 = some (tyJ9 k) := by decide +kernel
abbrev cJ9_max_7cf53 : ByteArray := prog_18_method_65_code
def yJ9_max_7cf53 : MethodName := ⟨RJ9, "max", "(II)I"⟩
abbrev cJ9_min_7cf53 : ByteArray := prog_18_method_69_code
def yJ9_min_7cf53 : MethodName := ⟨RJ9, "min", "(II)I"⟩
def RJ0 : String := "java/lang/String"
def TJ0 : u_T := fun k => match k with
  | _ => ("", "", "", false)
def tyJ0 : Nat → FieldType := fun k => match k with
  | _ => .int
abbrev wsJ00 : List Cond := u_ws RJ0 TJ0 0
theorem nmJ0 : ∀ a, a < 0 → ∀ b, b < 0 → a ≠ b → (TJ0 a).2.1 ≠ (TJ0 b).2.1 := by decide +kernel
theorem tyJ0_ok : ∀ k, k < 0 → parseFieldDescriptor (TJ0 k).2.2.1 = some (tyJ0 k) := by decide +kernel
def RL : String := "TurnsHallLaw"
abbrev cL_cell : ByteArray := method_2_code
def yL_cell : MethodName := ⟨RL, "cell", "([II)I"⟩
abbrev cL_low : ByteArray := method_3_code
def yL_low : MethodName := ⟨RL, "low", "(II)I"⟩
abbrev cL_placed : ByteArray := method_4_code
def yL_placed : MethodName := ⟨RL, "placed", "(LTurnsHall;II)I"⟩
abbrev cL_flippedEdge : ByteArray := method_5_code
def yL_flippedEdge : MethodName := ⟨RL, "flippedEdge", "(LTurnsHall;II)I"⟩
abbrev cL_copied : ByteArray := method_6_code
def yL_copied : MethodName := ⟨RL, "copied", "(LTurnsHall;Z)I"⟩
abbrev cL_bit : ByteArray := method_7_code
def yL_bit : MethodName := ⟨RL, "bit", "(III)J"⟩
abbrev cL_sign : ByteArray := method_8_code
def yL_sign : MethodName := ⟨RL, "sign", "(JIII)I"⟩
abbrev cL_holds : ByteArray := method_9_code
def yL_holds : MethodName := ⟨RL, "holds", "(JI)Z"⟩
abbrev cL_crosses : ByteArray := method_10_code
def yL_crosses : MethodName := ⟨RL, "crosses", "(JIIII)Z"⟩
abbrev cL_isIn : ByteArray := method_11_code
def yL_isIn : MethodName := ⟨RL, "isIn", "(JIIII)Z"⟩
abbrev cL_follows : ByteArray := method_12_code
def yL_follows : MethodName := ⟨RL, "follows", "(JIII)I"⟩
abbrev cL_hull : ByteArray := method_13_code
def yL_hull : MethodName := ⟨RL, "hull", "(JII)I"⟩
abbrev cL_renamedSign : ByteArray := method_14_code
def yL_renamedSign : MethodName := ⟨RL, "renamedSign", "(JIIIII)Z"⟩
abbrev cL_shapes : ByteArray := method_15_code
def yL_shapes : MethodName := ⟨RL, "shapes", "(LTurnsHall;JI)Z"⟩
abbrev cL_other : ByteArray := method_16_code
def yL_other : MethodName := ⟨RL, "other", "(JI[III)I"⟩
abbrev cL_law : ByteArray := code
def yL_law : MethodName := ⟨RL, "law", "([I)Z"⟩
end
section
/-! ===== the small machine: what the methods of this claim do, said over numbers alone ===== -/
/-- whole numbers (fields and cells), longs, the drawing that is being named, how many exceptions were made -/
abbrev tH : Type := (Nat → Nat → Int32) × (Nat → Nat → Int64) × Option Nat × Nat
/-- how a method ends: with an answer, or with an exception of a number -/
abbrev tO : Type := Option Value ⊕ Nat
abbrev tR : Type := Nat → Nat → Nat → List Value → List Value → tH → tO → tH → Prop
/-- a method: its kind, name, bytes, locals, answer, table, arguments (with the receiver), static, level, the argument that bounds its recursion (plus 1) -/
abbrev tM : Type := Nat × MethodName × ByteArray × Nat × Option FieldType × List (Nat × Nat × Nat × Nat) × Nat × Bool × Nat × Nat
abbrev tm_oc (q : tM) : Nat := q.1
abbrev tm_y (q : tM) : MethodName := q.2.1
abbrev tm_by (q : tM) : ByteArray := q.2.2.1
abbrev tm_ml (q : tM) : Nat := q.2.2.2.1
abbrev tm_rt (q : tM) : Option FieldType := q.2.2.2.2.1
abbrev tm_hh (q : tM) : List (Nat × Nat × Nat × Nat) := q.2.2.2.2.2.1
abbrev tm_na (q : tM) : Nat := q.2.2.2.2.2.2.1
abbrev tm_st (q : tM) : Bool := q.2.2.2.2.2.2.2.1
abbrev tm_lv (q : tM) : Nat := q.2.2.2.2.2.2.2.2.1
abbrev tm_rc (q : tM) : Nat := q.2.2.2.2.2.2.2.2.2
def t_I (h : tH) (k i : Nat) (x : Int32) : tH := (fun a b => if a = k ∧ b = i then x else h.1 a b, h.2)
def t_L (h : tH) (k i : Nat) (x : Int64) : tH := (h.1, fun a b => if a = k ∧ b = i then x else h.2.1 a b, h.2.2)
def t_N (h : tH) (x : Option Nat) : tH := (h.1, h.2.1, x, h.2.2.2)
def t_X (h : tH) : tH := (h.1, h.2.1, h.2.2.1, h.2.2.2 + 1)
def t_lk {α : Type} : List (Nat × Nat × α) → Nat → Nat → Option α
  | [], _, _ => none
  | (x, y, v) :: l, a, b => if x = a ∧ y = b then some v else t_lk l a b
theorem t_lk_mem {α : Type} : ∀ (l : List (Nat × Nat × α)) (a b : Nat) (v : α), t_lk l a b = some v → (a, b, v) ∈ l
  | [], a, b, v, h => by cases h
  | (x, y, w) :: l, a, b, v, h => by
    unfold t_lk at h
    split at h
    · next hc => cases h; rw [hc.1, hc.2]; exact List.mem_cons_self
    · exact List.mem_cons_of_mem _ (t_lk_mem l a b v h)
/-- the number of the law's method that makes a row -/
abbrev t_SH : Nat := 112
/-- the row that it makes, as it begins -/
def t_A (h : tH) : tH := (fun a b => if a = 35 then 0 else if a = 36 ∧ b = 0 then 1 else h.1 a b, h.2.1, h.2.2.1, h.2.2.2 + 1)
/-- without that row -/
def t_dr (h : tH) : tH := (fun a b => if a = 36 ∧ b = 0 then 0 else h.1 a b, h.2)
/-- of which kind a thing is -/
def t_ob (k : Nat) : Option Nat :=
  if k = 0 then some 0 else if k = 1 then some 1 else if k = 4 then some 2 else if k = 9 then some 3 else if k = 11 then some 4 else if 40 ≤ k ∧ k < 46 then some 5 else if 70 ≤ k ∧ k < 77 then some 6 else none
/-- what row a thing is: 0 of ints, 1 of booleans, 2 of longs, 3 of drawings; how long -/
def t_ar (k : Nat) : Option (Nat × Nat) :=
  if k = 2 ∨ k = 3 ∨ k = 6 ∨ k = 12 ∨ k = 14 ∨ k = 15 ∨ (50 ≤ k ∧ k < 56) ∨ (60 ≤ k ∧ k < 66) then some (0, 7)
  else if k = 5 ∨ k = 10 then some (0, 21)
  else if k = 7 ∨ k = 16 then some (0, 49)
  else if 80 ≤ k ∧ k < 87 then some (0, 343)
  else if k = 8 then some (3, 6)
  else none
/-- the script is the row 33; its length is told by 34; the row 35 is there while 36 tells so -/
def t_ai (h : tH) (k : Nat) : Option Nat := if k = 33 then some (h.1 34 0).toNatClampNeg else if k = 35 then (if h.1 36 0 = 1 then some 4 else none) else match t_ar k with
  | some (0, n) => some n
  | _ => none
def t_ln (h : tH) (k : Nat) : Option Nat := if k = 33 then some (h.1 34 0).toNatClampNeg else match t_ar k with
  | some (_, n) => some n
  | _ => none
/-- the things that fields hold for ever: kind, slot, whose -/
def t_rv (ci sl k : Nat) : Value := match ci, sl with
  | 0, 0 => .ref 1
  | 0, 1 => .ref 4
  | 0, 2 => .ref 8
  | 0, 4 => .ref 9
  | 0, 5 => .ref 11
  | 0, 6 => .ref 76
  | 1, 0 => .ref 2
  | 1, 1 => .ref 3
  | 2, 0 => .ref 5
  | 2, 1 => .ref 6
  | 2, 2 => .ref 7
  | 3, 0 => .ref 10
  | 4, 0 => .ref 12
  | 5, 0 => .ref (k + 30)
  | 5, 1 => .ref (k + 10)
  | 5, 2 => .ref (k + 20)
  | 6, 0 => .ref (k + 10)
  | _, _ => .null
/-- what a field holds, by its kind: 0 a number, 1 a boolean, 2 a long, 3 a thing for ever, 4 the named drawing's signs -/
def t_fv (h : tH) (ci sl ty k : Nat) : Value := match ty with
  | 0 => .int (h.1 k sl)
  | 1 => .int (h.1 k sl)
  | 2 => .long (h.2.1 k sl)
  | 3 => t_rv ci sl k
  | _ => .null
def t_in (o : Option Nat) (i : Int32) : Prop := ∃ n, o = some n ∧ vp_in i n
def t_bo (k : Nat) : Option Nat := match t_ar k with
  | some (1, n) => some n
  | _ => none
def t_lo (k : Nat) : Option Nat := match t_ar k with
  | some (2, n) => some n
  | _ => none
def t_ro (k : Nat) : Option Nat := match t_ar k with
  | some (3, n) => some n
  | _ => none
/-- no long lies just below this cell -/
def t_nl (ls : List Value) (i : Nat) : Bool := match i with
  | 0 => true
  | j + 1 => match ls[j]? with
    | some v => !(v.category == 2)
    | none => true
def t_cb (c : ClassFile.Cond) (x y : Int32) : Bool := match c with
  | .eq => decide (x = y)
  | .ne => decide (¬ x = y)
  | .lt => decide (x < y)
  | .ge => decide (y ≤ x)
  | .gt => decide (y < x)
  | .le => decide (x ≤ y)
abbrev tN : Type := Prop × (Nat × List Value × List Value × tH)
def t_bad : tN := (False, 0, [], [], (fun _ _ => 0, fun _ _ => 0, none, 0))
end
section
/-! the methods of this claim (printed by program) -/
def tq_0 : tM := (11, yJ6_compare_7cf53, cJ6_compare_7cf53, 2, some .int, [], 2, true, 0, 0)
def tq_1 : tM := (11, yJ6_bitCount_0f7a4, cJ6_bitCount_0f7a4, 1, some .int, [], 1, true, 0, 0)
def tq_2 : tM := (0, yX0_one, cX0_one, 1, some .int, [], 1, true, 0, 0)
def tq_3 : tM := (0, yX0_firstOnes, cX0_firstOnes, 1, some .int, [], 1, true, 0, 0)
def tq_4 : tM := (0, yX0_has, cX0_has, 2, some .boolean, [], 2, true, 1, 0)
def tq_5 : tM := (0, yX0_lowest, cX0_lowest, 2, some .int, [], 1, true, 2, 0)
def tq_6 : tM := (1, yX1_get, cX1_get, 2, some .int, [], 2, true, 0, 0)
def tq_7 : tM := (1, yX1_set, cX1_set, 3, none, [], 3, true, 0, 0)
def tq_8 : tM := (1, yX1_exchange, cX1_exchange, 4, none, [], 3, true, 1, 0)
def tq_9 : tM := (2, yX2_giveNumbers, cX2_giveNumbers, 3, none, [], 2, false, 2, 0)
def tq_10 : tM := (2, yX2_hasEdge, cX2_hasEdge, 3, some .boolean, [], 3, false, 2, 0)
def tq_11 : tM := (2, yX2_isCorner, cX2_isCorner, 5, some .boolean, [], 5, false, 4, 0)
def tq_12 : tM := (3, yX3_after, cX3_after, 4, some .int, [], 3, true, 3, 0)
def tq_13 : tM := (3, yX3_isSide, cX3_isSide, 5, some .boolean, [], 4, true, 2, 0)
def tq_14 : tM := (3, yX3_of, cX3_of, 5, some .int, [], 2, true, 4, 0)
def tq_21 : tM := (5, yX5_index, cX5_index, 4, some .int, [], 2, true, 0, 0)
def tq_22 : tM := (5, yX5_bit, cX5_bit, 2, some .int, [], 2, true, 1, 0)
def tq_23 : tM := (5, yX5_read, cX5_read, 6, none, [], 2, false, 4, 0)
def tq_24 : tM := (5, yX5_note, cX5_note, 8, none, [], 6, false, 3, 0)
def tq_25 : tM := (5, yX5_crossesNone, cX5_crossesNone, 4, some .boolean, [], 4, false, 1, 0)
def tq_26 : tM := (5, yX5_pairsCrossing, cX5_pairsCrossing, 3, some .int, [], 1, false, 1, 0)
def tq_27 : tM := (5, yX5_waysToMatch, cX5_waysToMatch, 8, some .int, [], 4, true, 3, 4)
def tq_29 : tM := (5, yX5_firstTriangulation, cX5_firstTriangulation, 4, some .int, [], 1, false, 2, 0)
def tq_31 : tM := (6, yX6_takes, cX6_takes, 5, some .boolean, [], 3, false, 3, 0)
def tq_32 : tM := (6, yX6_put, cX6_put, 3, none, [], 3, false, 1, 0)
def tq_33 : tM := (6, yX6_xOf, cX6_xOf, 2, some .int, [], 2, false, 1, 0)
def tq_34 : tM := (6, yX6_yOf, cX6_yOf, 2, some .int, [], 2, false, 1, 0)
def tq_35 : tM := (6, yX6_turn, cX6_turn, 6, some .int, [], 5, false, 2, 0)
def tq_36 : tM := (6, yX6_turnOf, cX6_turnOf, 4, some .int, [], 4, false, 3, 0)
def tq_37 : tM := (6, yX6_tell, cX6_tell, 5, none, [], 2, false, 4, 0)
def tq_39 : tM := (7, yX7_of, cX7_of, 4, some .int, [], 4, false, 1, 0)
def tq_40 : tM := (7, yX7_cell, cX7_cell, 3, some .int, [], 3, true, 0, 0)
def tq_41 : tM := (7, yX7_put, cX7_put, 5, none, [], 5, false, 1, 0)
def tq_42 : tM := (7, yX7_take, cX7_take, 6, none, [], 3, false, 2, 0)
def tq_44 : tM := (7, yX7_exchange, cX7_exchange, 6, none, [], 3, false, 2, 0)
def tq_45 : tM := (7, yX7_turnOver, cX7_turnOver, 5, some .boolean, [], 4, false, 5, 0)
def tq_46 : tM := (7, yX7_fits, cX7_fits, 6, some .boolean, [], 4, false, 4, 0)
def tq_47 : tM := (7, yX7_fourHold, cX7_fourHold, 6, some .boolean, [], 5, false, 2, 0)
def tq_48 : tM := (7, yX7_fiveHoldAround, cX7_fiveHoldAround, 6, some .boolean, [], 6, false, 3, 0)
def tq_49 : tM := (7, yX7_fiveHold, cX7_fiveHold, 7, some .boolean, [], 6, false, 2, 0)
def tq_51 : tM := (7, yX7_crosses, cX7_crosses, 5, some .boolean, [], 5, false, 2, 0)
def tq_52 : tM := (7, yX7_noneWithin, cX7_noneWithin, 5, some .boolean, [], 4, false, 3, 0)
def tq_53 : tM := (7, yX7_isWithin, cX7_isWithin, 6, some .boolean, [], 5, false, 2, 0)
def tq_54 : tM := (7, yX7_lesserSide, cX7_lesserSide, 5, some .int, [], 3, false, 2, 0)
def tq_62 : tM := (9, yX9_place, cX9_place, 3, some .int, [], 3, false, 4, 0)
def tq_63 : tM := (9, yX9_clear, cX9_clear, 2, some .int, [], 1, false, 0, 0)
def tq_68 : tM := (9, yX9_draw, cX9_draw, 2, some .int, [], 1, false, 5, 0)
def tq_70 : tM := (9, yX9_copy, cX9_copy, 5, some .int, [], 3, false, 3, 0)
def tq_71 : tM := (9, yX9_flip, cX9_flip, 6, some .boolean, [], 5, false, 6, 0)
def tq_72 : tM := (9, yX9_rename, cX9_rename, 5, none, [], 4, false, 3, 0)
def tq_74 : tM := (9, yX9_slot, cX9_slot, 2, some (.object "TurnsHall$Drawing"), [], 2, false, 0, 0)
def tq_75 : tM := (9, yX9_known, cX9_known, 3, some (.object "TurnsHall$Drawing"), [], 2, false, 1, 0)
def tq_76 : tM := (9, yX9_checkPoint, cX9_checkPoint, 2, none, [], 2, true, 0, 0)
def tq_77 : tM := (9, yX9_unused, cX9_unused, 2, some (.object "TurnsHall$Drawing"), [], 1, false, 1, 0)
def tq_78 : tM := (9, yX9_finished, cX9_finished, 1, some .int, [], 1, false, 0, 0)
def tq_79 : tM := (9, yX9_drawings, cX9_drawings, 1, some .int, [], 1, false, 0, 0)
def tq_80 : tM := (9, yX9_points, cX9_points, 2, some .int, [], 2, false, 2, 0)
def tq_81 : tM := (9, yX9_hasNumbers, cX9_hasNumbers, 2, some .boolean, [], 2, false, 2, 0)
def tq_82 : tM := (9, yX9_number, cX9_number, 5, some .int, [], 4, false, 2, 0)
def tq_83 : tM := (9, yX9_sign, cX9_sign, 6, some .int, [], 5, false, 2, 0)
def tq_84 : tM := (9, yX9_flips, cX9_flips, 7, some .int, [], 2, false, 6, 0)
def tq_85 : tM := (9, yX9_hull, cX9_hull, 8, some .int, [], 3, false, 5, 0)
def tq_86 : tM := (9, yX9_layer, cX9_layer, 8, some .int, [], 3, false, 5, 0)
def tq_87 : tM := (9, yX9_cross, cX9_cross, 7, some .boolean, [], 6, false, 3, 0)
def tq_88 : tM := (9, yX9_crossings, cX9_crossings, 2, some .int, [], 2, false, 5, 0)
def tq_89 : tM := (9, yX9_empties, cX9_empties, 7, some .int, [], 2, false, 4, 0)
def tq_90 : tM := (9, yX9_level, cX9_level, 7, some .int, [], 3, false, 3, 0)
def tq_91 : tM := (9, yX9_matchings, cX9_matchings, 4, some .int, [], 3, false, 35, 0)
def tq_95 : tM := (9, yX9_triangulate, cX9_triangulate, 3, some .int, [], 2, false, 5, 0)
def tq_96 : tM := (9, yX9_flipEdge, cX9_flipEdge, 7, some .int, [], 4, false, 5, 0)
def tq_97 : tM := (9, yX9_edge, cX9_edge, 5, some .boolean, [], 4, false, 3, 0)
def tq_99 : tM := (13, yL_cell, cL_cell, 2, some .int, [], 2, true, 0, 0)
def tq_100 : tM := (13, yL_low, cL_low, 2, some .int, [], 2, true, 0, 0)
def tq_101 : tM := (13, yL_placed, cL_placed, 4, some .int, [(0, 6, 7, 16)], 3, true, 5, 0)
def tq_102 : tM := (13, yL_flippedEdge, cL_flippedEdge, 4, some .int, [(0, 7, 8, 16)], 3, true, 6, 0)
def tq_103 : tM := (13, yL_copied, cL_copied, 3, some .int, [(0, 6, 7, 16)], 2, true, 4, 0)
def tq_104 : tM := (13, yL_bit, cL_bit, 9, some .long, [], 3, true, 0, 0)
def tq_105 : tM := (13, yL_sign, cL_sign, 6, some .int, [], 4, true, 1, 0)
def tq_106 : tM := (13, yL_holds, cL_holds, 10, some .boolean, [], 2, true, 2, 0)
def tq_107 : tM := (13, yL_crosses, cL_crosses, 6, some .boolean, [], 5, true, 2, 0)
def tq_108 : tM := (13, yL_isIn, cL_isIn, 7, some .boolean, [], 5, true, 2, 0)
def tq_109 : tM := (13, yL_follows, cL_follows, 8, some .int, [], 4, true, 2, 0)
def tq_110 : tM := (13, yL_hull, cL_hull, 7, some .int, [], 3, true, 3, 0)
def tq_111 : tM := (13, yL_renamedSign, cL_renamedSign, 10, some .boolean, [], 6, true, 2, 0)
def tq_112 : tM := (13, yL_shapes, cL_shapes, 21, some .boolean, [], 3, true, 36, 0)
def tq_113 : tM := (13, yL_other, cL_other, 11, some .int, [], 5, true, 3, 0)
def tq_114 : tM := (13, x, code, 25, some .boolean, [], 1, true, 37, 0)
def t_M : List tM := [tq_0, tq_1, tq_2, tq_3, tq_4, tq_5, tq_6, tq_7, tq_8, tq_9, tq_10, tq_11, tq_12, tq_13, tq_14, tq_0, tq_0, tq_0, tq_0, tq_0, tq_0, tq_21, tq_22, tq_23, tq_24, tq_25, tq_26, tq_27, tq_0, tq_29, tq_0, tq_31, tq_32, tq_33, tq_34, tq_35, tq_36, tq_37, tq_0, tq_39, tq_40, tq_41, tq_42, tq_0, tq_44, tq_45, tq_46, tq_47, tq_48, tq_49, tq_0, tq_51, tq_52, tq_53, tq_54, tq_0, tq_0, tq_0, tq_0, tq_0, tq_0, tq_0, tq_62, tq_63, tq_0, tq_0, tq_0, tq_0, tq_68, tq_0, tq_70, tq_71, tq_72, tq_0, tq_74, tq_75, tq_76, tq_77, tq_78, tq_79, tq_80, tq_81, tq_82, tq_83, tq_84, tq_85, tq_86, tq_87, tq_88, tq_89, tq_90, tq_91, tq_0, tq_0, tq_0, tq_95, tq_96, tq_97, tq_0, tq_99, tq_100, tq_101, tq_102, tq_103, tq_104, tq_105, tq_106, tq_107, tq_108, tq_109, tq_110, tq_111, tq_112, tq_113, tq_114]
theorem ta_0 : t_M[0]? = some tq_0 := rfl
theorem ta_1 : t_M[1]? = some tq_1 := rfl
theorem ta_2 : t_M[2]? = some tq_2 := rfl
theorem ta_3 : t_M[3]? = some tq_3 := rfl
theorem ta_4 : t_M[4]? = some tq_4 := rfl
theorem ta_5 : t_M[5]? = some tq_5 := rfl
theorem ta_6 : t_M[6]? = some tq_6 := rfl
theorem ta_7 : t_M[7]? = some tq_7 := rfl
theorem ta_8 : t_M[8]? = some tq_8 := rfl
theorem ta_9 : t_M[9]? = some tq_9 := rfl
theorem ta_10 : t_M[10]? = some tq_10 := rfl
theorem ta_11 : t_M[11]? = some tq_11 := rfl
theorem ta_12 : t_M[12]? = some tq_12 := rfl
theorem ta_13 : t_M[13]? = some tq_13 := rfl
theorem ta_14 : t_M[14]? = some tq_14 := rfl
theorem ta_21 : t_M[21]? = some tq_21 := rfl
theorem ta_22 : t_M[22]? = some tq_22 := rfl
theorem ta_23 : t_M[23]? = some tq_23 := rfl
theorem ta_24 : t_M[24]? = some tq_24 := rfl
theorem ta_25 : t_M[25]? = some tq_25 := rfl
theorem ta_26 : t_M[26]? = some tq_26 := rfl
theorem ta_27 : t_M[27]? = some tq_27 := rfl
theorem ta_29 : t_M[29]? = some tq_29 := rfl
theorem ta_31 : t_M[31]? = some tq_31 := rfl
theorem ta_32 : t_M[32]? = some tq_32 := rfl
theorem ta_33 : t_M[33]? = some tq_33 := rfl
theorem ta_34 : t_M[34]? = some tq_34 := rfl
theorem ta_35 : t_M[35]? = some tq_35 := rfl
theorem ta_36 : t_M[36]? = some tq_36 := rfl
theorem ta_37 : t_M[37]? = some tq_37 := rfl
theorem ta_39 : t_M[39]? = some tq_39 := rfl
theorem ta_40 : t_M[40]? = some tq_40 := rfl
theorem ta_41 : t_M[41]? = some tq_41 := rfl
theorem ta_42 : t_M[42]? = some tq_42 := rfl
theorem ta_44 : t_M[44]? = some tq_44 := rfl
theorem ta_45 : t_M[45]? = some tq_45 := rfl
theorem ta_46 : t_M[46]? = some tq_46 := rfl
theorem ta_47 : t_M[47]? = some tq_47 := rfl
theorem ta_48 : t_M[48]? = some tq_48 := rfl
theorem ta_49 : t_M[49]? = some tq_49 := rfl
theorem ta_51 : t_M[51]? = some tq_51 := rfl
theorem ta_52 : t_M[52]? = some tq_52 := rfl
theorem ta_53 : t_M[53]? = some tq_53 := rfl
theorem ta_54 : t_M[54]? = some tq_54 := rfl
theorem ta_62 : t_M[62]? = some tq_62 := rfl
theorem ta_63 : t_M[63]? = some tq_63 := rfl
theorem ta_68 : t_M[68]? = some tq_68 := rfl
theorem ta_70 : t_M[70]? = some tq_70 := rfl
theorem ta_71 : t_M[71]? = some tq_71 := rfl
theorem ta_72 : t_M[72]? = some tq_72 := rfl
theorem ta_74 : t_M[74]? = some tq_74 := rfl
theorem ta_75 : t_M[75]? = some tq_75 := rfl
theorem ta_76 : t_M[76]? = some tq_76 := rfl
theorem ta_77 : t_M[77]? = some tq_77 := rfl
theorem ta_78 : t_M[78]? = some tq_78 := rfl
theorem ta_79 : t_M[79]? = some tq_79 := rfl
theorem ta_80 : t_M[80]? = some tq_80 := rfl
theorem ta_81 : t_M[81]? = some tq_81 := rfl
theorem ta_82 : t_M[82]? = some tq_82 := rfl
theorem ta_83 : t_M[83]? = some tq_83 := rfl
theorem ta_84 : t_M[84]? = some tq_84 := rfl
theorem ta_85 : t_M[85]? = some tq_85 := rfl
theorem ta_86 : t_M[86]? = some tq_86 := rfl
theorem ta_87 : t_M[87]? = some tq_87 := rfl
theorem ta_88 : t_M[88]? = some tq_88 := rfl
theorem ta_89 : t_M[89]? = some tq_89 := rfl
theorem ta_90 : t_M[90]? = some tq_90 := rfl
theorem ta_91 : t_M[91]? = some tq_91 := rfl
theorem ta_95 : t_M[95]? = some tq_95 := rfl
theorem ta_96 : t_M[96]? = some tq_96 := rfl
theorem ta_97 : t_M[97]? = some tq_97 := rfl
theorem ta_99 : t_M[99]? = some tq_99 := rfl
theorem ta_100 : t_M[100]? = some tq_100 := rfl
theorem ta_101 : t_M[101]? = some tq_101 := rfl
theorem ta_102 : t_M[102]? = some tq_102 := rfl
theorem ta_103 : t_M[103]? = some tq_103 := rfl
theorem ta_104 : t_M[104]? = some tq_104 := rfl
theorem ta_105 : t_M[105]? = some tq_105 := rfl
theorem ta_106 : t_M[106]? = some tq_106 := rfl
theorem ta_107 : t_M[107]? = some tq_107 := rfl
theorem ta_108 : t_M[108]? = some tq_108 := rfl
theorem ta_109 : t_M[109]? = some tq_109 := rfl
theorem ta_110 : t_M[110]? = some tq_110 := rfl
theorem ta_111 : t_M[111]? = some tq_111 := rfl
theorem ta_112 : t_M[112]? = some tq_112 := rfl
theorem ta_113 : t_M[113]? = some tq_113 := rfl
theorem ta_114 : t_M[114]? = some tq_114 := rfl
def t_flt : List (Nat × Nat × Nat × Nat × Nat × Bool) := [(2, 12, 5, 0, 3, true), (2, 18, 5, 1, 3, true), (2, 22, 5, 2, 3, true), (2, 25, 6, 1, 0, false), (2, 44, 5, 3, 1, false), (2, 48, 5, 5, 1, false), (2, 51, 5, 4, 0, false), (3, 9, 6, 1, 0, false), (4, 9, 4, 0, 3, true), (5, 9, 3, 0, 3, true), (5, 27, 6, 1, 0, false), (5, 33, 3, 1, 0, false), (6, 9, 1, 0, 3, true), (6, 15, 1, 1, 3, true), (6, 18, 1, 2, 0, false), (6, 49, 6, 1, 0, false), (7, 9, 6, 0, 3, true), (7, 29, 6, 1, 0, false), (8, 9, 2, 0, 3, true), (8, 15, 2, 1, 3, true), (8, 18, 2, 2, 3, true), (9, 10, 0, 0, 3, true), (9, 19, 0, 1, 3, true), (9, 25, 0, 2, 3, true), (9, 32, 0, 4, 3, true), (9, 39, 0, 5, 3, true), (9, 46, 0, 6, 3, true), (9, 71, 1, 2, 0, false), (9, 98, 5, 0, 3, true), (9, 135, 5, 3, 1, false), (9, 139, 5, 5, 1, false), (9, 147, 5, 1, 3, true), (9, 156, 5, 2, 3, true), (9, 163, 0, 3, 0, false), (9, 174, 6, 1, 0, false), (9, 267, 5, 4, 0, false)]
def t_ct : List (Nat × Nat × Nat) := [(0, 9, 2), (0, 15, 4), (1, 7, 6), (1, 13, 7), (2, 29, 33), (2, 35, 7), (2, 41, 34), (2, 54, 22), (2, 60, 39), (2, 64, 10), (2, 68, 52), (3, 15, 4), (3, 21, 13), (3, 27, 39), (3, 31, 2), (3, 35, 12), (5, 24, 21), (5, 36, 24), (5, 40, 51), (5, 44, 6), (5, 50, 22), (5, 53, 7), (5, 57, 1), (5, 63, 5), (5, 68, 4), (5, 72, 25), (5, 76, 2), (5, 79, 27), (6, 22, 33), (6, 26, 34), (6, 29, 35), (6, 33, 7), (6, 39, 6), (6, 43, 0), (6, 52, 36), (6, 56, 41), (7, 15, 40), (7, 19, 6), (7, 25, 7), (7, 33, 39), (7, 36, 41), (7, 44, 46), (7, 48, 47), (7, 52, 48), (7, 56, 49), (7, 63, 53), (9, 58, 31), (9, 67, 32), (9, 94, 77), (9, 101, 37), (9, 105, 9), (9, 109, 78), (9, 118, 75), (9, 122, 42), (9, 125, 76), (9, 131, 45), (9, 144, 44), (9, 151, 8), (9, 166, 74), (9, 181, 6), (9, 185, 39), (9, 189, 41), (9, 194, 3), (9, 199, 14), (9, 204, 1), (9, 209, 5), (9, 212, 12), (9, 216, 4), (9, 219, 51), (9, 223, 23), (9, 226, 26), (9, 229, 52), (9, 234, 54), (9, 240, 27), (9, 264, 29), (9, 270, 10), (9, 275, 11), (9, 278, 22), (13, 10, 62), (13, 18, 96), (13, 22, 70), (13, 26, 104), (13, 32, 105), (13, 36, 109), (13, 39, 110), (13, 43, 85), (13, 45, 86), (13, 48, 108), (13, 52, 106), (13, 56, 83), (13, 59, 107), (13, 62, 87), (13, 66, 91), (13, 69, 88), (13, 73, 89), (13, 76, 84), (13, 79, 90), (13, 83, 99), (13, 87, 100), (13, 90, 101), (13, 94, 63), (13, 98, 79), (13, 101, 68), (13, 104, 80), (13, 107, 112), (13, 111, 71), (13, 115, 72), (13, 119, 111), (13, 123, 95), (13, 126, 113), (13, 130, 102), (13, 133, 103), (13, 137, 81), (13, 141, 97), (13, 145, 82)]
def t_mt : List (Nat × Nat × Bool) := [(5, 15, false), (5, 21, true), (7, 66, false), (9, 281, false), (9, 286, true)]
def t_tt : List (Nat × Nat × Nat) := [(62, 28, 0), (62, 50, 1), (68, 11, 1), (71, 43, 0), (72, 24, 0), (75, 22, 2), (76, 15, 2), (77, 13, 1), (82, 21, 1), (85, 13, 2), (87, 69, 0), (90, 18, 0), (91, 24, 0), (96, 29, 1), (96, 172, 1)]
def t_xt : List (Nat × Nat × Nat) := [(9, 51, 0), (9, 62, 1), (9, 169, 2), (13, 16, 1)]
def t_kc : List (Nat × Nat × Option Int32 × Option Int64) := [(11, 265, some 1431655765, none), (11, 266, some 858993459, none), (11, 267, some 252645135, none), (13, 7, some 1000308325, none), (13, 8, some 751363499, none), (13, 9, some 2147483647, none)]
def t_oci (oc : Nat) : Option Nat := match oc with
  | 2 => some 5
  | 4 => some 4
  | 5 => some 3
  | 6 => some 1
  | 7 => some 6
  | 8 => some 2
  | 9 => some 0
  | _ => none
end
section
/-! one instruction that neither calls nor ends: whether it goes on, and where -/
def t_st (q : tM) (pc : Nat) (ls st : List Value) (h : tH) (len : Nat) : Instr → tN
  | .iconst n => (len = 1, pc + len, ls, .int (Int32.ofInt n) :: st, h)
  | .bipush n => (len = 2, pc + len, ls, .int (Int8.ofInt n).toInt32 :: st, h)
  | .sipush n => (len = 3, pc + len, ls, .int (Int16.ofInt n).toInt32 :: st, h)
  | .lconst n => (len = 1, pc + len, ls, .long (Int64.ofNat (n : Nat)) :: st, h)
  | .aconst_null => (len = 1, pc + len, ls, .null :: st, h)
  | .ldc_w i => match t_lk t_kc (tm_oc q) i with
    | some (some v, _) => (len = 3, pc + len, ls, .int v :: st, h)
    | _ => t_bad
  | .ldc i => match t_lk t_kc (tm_oc q) i with
    | some (some v, _) => (len = 2, pc + len, ls, .int v :: st, h)
    | _ => t_bad
  | .ldc2_w i => match t_lk t_kc (tm_oc q) i with
    | some (_, some v) => (len = 3, pc + len, ls, .long v :: st, h)
    | _ => t_bad
  | .iload_n n => match ls[(n : Nat)]? with
    | some (.int x) => (len = 1, pc + len, ls, .int x :: st, h)
    | _ => t_bad
  | .iload n => match ls[n]? with
    | some (.int x) => (len = 2, pc + len, ls, .int x :: st, h)
    | _ => t_bad
  | .lload_n n => match ls[(n : Nat)]? with
    | some (.long x) => (len = 1, pc + len, ls, .long x :: st, h)
    | _ => t_bad
  | .lload n => match ls[n]? with
    | some (.long x) => (len = 2, pc + len, ls, .long x :: st, h)
    | _ => t_bad
  | .aload_n n => match ls[(n : Nat)]? with
    | some (.ref x) => (len = 1, pc + len, ls, .ref x :: st, h)
    | some .null => (len = 1, pc + len, ls, .null :: st, h)
    | _ => t_bad
  | .aload n => match ls[n]? with
    | some (.ref x) => (len = 2, pc + len, ls, .ref x :: st, h)
    | some .null => (len = 2, pc + len, ls, .null :: st, h)
    | _ => t_bad
  | .istore_n n => match st with
    | .int x :: st => (len = 1 ∧ (n : Nat) < ls.length ∧ t_nl ls n = true, pc + len, ls.set n (.int x), st, h)
    | _ => t_bad
  | .istore n => match st with
    | .int x :: st => (len = 2 ∧ n < ls.length ∧ t_nl ls n = true, pc + len, ls.set n (.int x), st, h)
    | _ => t_bad
  | .astore_n n => match st with
    | .ref x :: st => (len = 1 ∧ (n : Nat) < ls.length ∧ t_nl ls n = true, pc + len, ls.set n (.ref x), st, h)
    | .null :: st => (len = 1 ∧ (n : Nat) < ls.length ∧ t_nl ls n = true, pc + len, ls.set n .null, st, h)
    | _ => t_bad
  | .astore n => match st with
    | .ref x :: st => (len = 2 ∧ n < ls.length ∧ t_nl ls n = true, pc + len, ls.set n (.ref x), st, h)
    | .null :: st => (len = 2 ∧ n < ls.length ∧ t_nl ls n = true, pc + len, ls.set n .null, st, h)
    | _ => t_bad
  | .lstore_n n => match st with
    | .long x :: st => (len = 1 ∧ (n : Nat) + 1 < ls.length ∧ t_nl ls n = true, pc + len, (ls.set n (.long x)).set (n + 1) (.float 0), st, h)
    | _ => t_bad
  | .lstore n => match st with
    | .long x :: st => (len = 2 ∧ n + 1 < ls.length ∧ t_nl ls n = true, pc + len, (ls.set n (.long x)).set (n + 1) (.float 0), st, h)
    | _ => t_bad
  | .iinc n k => match ls[n]? with
    | some (.int x) => (len = 3 ∧ t_nl ls n = true, pc + len, ls.set n (.int (x + Int32.ofInt k)), st, h)
    | _ => t_bad
  | .iadd => match st with
    | .int y :: .int x :: st => (len = 1, pc + len, ls, .int (x + y) :: st, h)
    | _ => t_bad
  | .isub => match st with
    | .int y :: .int x :: st => (len = 1, pc + len, ls, .int (x - y) :: st, h)
    | _ => t_bad
  | .imul => match st with
    | .int y :: .int x :: st => (len = 1, pc + len, ls, .int (x * y) :: st, h)
    | _ => t_bad
  | .iand => match st with
    | .int y :: .int x :: st => (len = 1, pc + len, ls, .int (x &&& y) :: st, h)
    | _ => t_bad
  | .ior => match st with
    | .int y :: .int x :: st => (len = 1, pc + len, ls, .int (x ||| y) :: st, h)
    | _ => t_bad
  | .ixor => match st with
    | .int y :: .int x :: st => (len = 1, pc + len, ls, .int (x ^^^ y) :: st, h)
    | _ => t_bad
  | .idiv => match st with
    | .int y :: .int x :: st => (len = 1 ∧ ¬ y = 0, pc + len, ls, .int (x / y) :: st, h)
    | _ => t_bad
  | .irem => match st with
    | .int y :: .int x :: st => (len = 1 ∧ ¬ y = 0, pc + len, ls, .int (x - x / y * y) :: st, h)
    | _ => t_bad
  | .ineg => match st with
    | .int x :: st => (len = 1, pc + len, ls, .int (-x) :: st, h)
    | _ => t_bad
  | .ishl => match st with
    | .int y :: .int x :: st => (len = 1, pc + len, ls, .int (x <<< (y &&& 31)) :: st, h)
    | _ => t_bad
  | .ishr => match st with
    | .int y :: .int x :: st => (len = 1, pc + len, ls, .int (x >>> (y &&& 31)) :: st, h)
    | _ => t_bad
  | .iushr => match st with
    | .int y :: .int x :: st => (len = 1, pc + len, ls, .int (x.toUInt32 >>> (y.toUInt32 &&& Int32.toUInt32 31)).toInt32 :: st, h)
    | _ => t_bad
  | .ladd => match st with
    | .long y :: .long x :: st => (len = 1, pc + len, ls, .long (x + y) :: st, h)
    | _ => t_bad
  | .lsub => match st with
    | .long y :: .long x :: st => (len = 1, pc + len, ls, .long (x - y) :: st, h)
    | _ => t_bad
  | .lmul => match st with
    | .long y :: .long x :: st => (len = 1, pc + len, ls, .long (x * y) :: st, h)
    | _ => t_bad
  | .lor => match st with
    | .long y :: .long x :: st => (len = 1, pc + len, ls, .long (x ||| y) :: st, h)
    | _ => t_bad
  | .land => match st with
    | .long y :: .long x :: st => (len = 1, pc + len, ls, .long (x &&& y) :: st, h)
    | _ => t_bad
  | .lxor => match st with
    | .long y :: .long x :: st => (len = 1, pc + len, ls, .long (x ^^^ y) :: st, h)
    | _ => t_bad
  | .lshl => match st with
    | .int y :: .long x :: st => (len = 1, pc + len, ls, .long (x <<< (y.toInt64 &&& 63)) :: st, h)
    | _ => t_bad
  | .lshr => match st with
    | .int y :: .long x :: st => (len = 1, pc + len, ls, .long (x >>> (y.toInt64 &&& 63)) :: st, h)
    | _ => t_bad
  | .i2l => match st with
    | .int x :: st => (len = 1, pc + len, ls, .long x.toInt64 :: st, h)
    | _ => t_bad
  | .lcmp => match st with
    | .long y :: .long x :: st => (len = 1, pc + len, ls, .int (lg_cmp x y) :: st, h)
    | _ => t_bad
  | .dup => match st with
    | v :: st => (len = 1 ∧ v.category = 1, pc + len, ls, v :: v :: st, h)
    | _ => t_bad
  | .dup2 => match st with
    | v :: w :: st => (len = 1 ∧ v.category = 1 ∧ w.category = 1, pc + len, ls, v :: w :: v :: w :: st, h)
    | _ => t_bad
  | .ifCond c off => match st with
    | .int x :: st => (len = 3 ∧ 0 ≤ (pc : Int) + off, (if t_cb c x 0 = true then ((pc : Int) + off).toNat else pc + len), ls, st, h)
    | _ => t_bad
  | .if_icmp c off => match st with
    | .int y :: .int x :: st => (len = 3 ∧ 0 ≤ (pc : Int) + off, (if t_cb c x y = true then ((pc : Int) + off).toNat else pc + len), ls, st, h)
    | _ => t_bad
  | .goto off => (len = 3 ∧ 0 ≤ (pc : Int) + off, ((pc : Int) + off).toNat, ls, st, h)
  | .ifnonnull off => match st with
    | .ref _ :: st => (len = 3 ∧ 0 ≤ (pc : Int) + off, ((pc : Int) + off).toNat, ls, st, h)
    | .null :: st => (len = 3, pc + len, ls, st, h)
    | _ => t_bad
  | .tableswitch dflt lo hi offs => match st with
    | .int x :: st => if x.toInt < lo ∨ hi < x.toInt then (0 ≤ (pc : Int) + dflt, ((pc : Int) + dflt).toNat, ls, st, h) else
      match offs[(x.toInt - lo).toNat]? with
      | some off => (0 ≤ (pc : Int) + off, ((pc : Int) + off).toNat, ls, st, h)
      | none => t_bad
    | _ => t_bad
  | .getfield i => match st with
    | .ref k :: st => match t_lk t_flt (tm_oc q) i with
      | some (ci, sl, ty, _) => (len = 3 ∧ t_ob k = some ci, pc + len, ls, t_fv h ci sl ty k :: st, h)
      | none => t_bad
    | _ => t_bad
  | .putfield i => match st with
    | .int x :: .ref k :: st => match t_lk t_flt (tm_oc q) i with
      | some (ci, sl, 0, false) => (len = 3 ∧ t_ob k = some ci, pc + len, ls, st, t_I h k sl x)
      | some (ci, sl, 1, false) => (len = 3 ∧ t_ob k = some ci ∧ (x = 0 ∨ x = 1), pc + len, ls, st, t_I h k sl x)
      | _ => t_bad
    | .long x :: .ref k :: st => match t_lk t_flt (tm_oc q) i with
      | some (ci, sl, 2, false) => (len = 3 ∧ t_ob k = some ci, pc + len, ls, st, t_L h k sl x)
      | _ => t_bad
    | _ => t_bad
  | .iaload => match st with
    | .int i :: .ref k :: st => (len = 1 ∧ t_in (t_ai h k) i, pc + len, ls, .int (h.1 k i.toNatClampNeg) :: st, h)
    | _ => t_bad
  | .iastore => match st with
    | .int x :: .int i :: .ref k :: st => (len = 1 ∧ k ≠ 33 ∧ t_in (t_ai h k) i, pc + len, ls, st, t_I h k i.toNatClampNeg x)
    | _ => t_bad
  | .baload => match st with
    | .int i :: .ref k :: st => (len = 1 ∧ t_in (t_bo k) i, pc + len, ls, .int (h.1 k i.toNatClampNeg) :: st, h)
    | _ => t_bad
  | .bastore => match st with
    | .int x :: .int i :: .ref k :: st => (len = 1 ∧ t_in (t_bo k) i ∧ (x = 0 ∨ x = 1), pc + len, ls, st, t_I h k i.toNatClampNeg x)
    | _ => t_bad
  | .laload => match st with
    | .int i :: .ref k :: st => (len = 1 ∧ t_in (t_lo k) i, pc + len, ls, .long (h.2.1 k i.toNatClampNeg) :: st, h)
    | _ => t_bad
  | .lastore => match st with
    | .long x :: .int i :: .ref k :: st => (len = 1 ∧ t_in (t_lo k) i, pc + len, ls, st, t_L h k i.toNatClampNeg x)
    | _ => t_bad
  | .aaload => match st with
    | .int i :: .ref k :: st => (len = 1 ∧ t_in (t_ro k) i, pc + len, ls, .ref (40 + i.toNatClampNeg) :: st, h)
    | _ => t_bad
  | .invokestatic i => match t_lk t_mt (tm_oc q) i, st with
    | some true, .int y :: .int x :: st => (len = 3 ∧ (st.map Value.category).sum ≤ 8, pc + len, ls, .int (if x < y then y else x) :: st, h)
    | some false, .int y :: .int x :: st => (len = 3 ∧ (st.map Value.category).sum ≤ 8, pc + len, ls, .int (if y < x then y else x) :: st, h)
    | _, _ => t_bad
  | .arraylength => match st with
    | .ref k :: st => match t_ln h k with
      | some n => (len = 1, pc + len, ls, .int (Int32.ofNat n) :: st, h)
      | none => t_bad
    | _ => t_bad
  | _ => t_bad
/-- a method's locals as it begins -/
def t_sl : List Value → List Value
  | [] => []
  | v :: l => if v.category = 2 then v :: .float 0 :: t_sl l else v :: t_sl l
def t_ini (vs : List Value) (n : Nat) : List Value := t_sl vs ++ List.replicate (n - (t_sl vs).length) (.float 0)
/-- the level of a call: it falls from call to call -/
def t_lev (q : tM) (args : List Value) : Nat := tm_lv q + (match tm_rc q with
  | 0 => 0
  | r + 1 => match args[r]? with
    | some (.int x) => 30 - x.toNatClampNeg
    | _ => 0)
/-- where an exception is caught -/
def t_hd (oc pc E : Nat) : List (Nat × Nat × Nat × Nat) → Option Nat
  | [] => none
  | (a, b, hp, ct) :: l => if a ≤ pc ∧ pc < b ∧ t_lk t_xt oc ct = some E then some hp else t_hd oc pc E l
/-- the cell in which a handler lays its exception -/
def t_as (r : Except DecodeError (Instr × Nat)) : Option (Nat × Nat) := match r with
  | .ok (.astore k, 2) => some (k, 2)
  | .ok (.astore_n k, 1) => some ((k : Nat), 1)
  | _ => none
/-- an answer is of the kind that the method tells -/
def t_tyo (r : Option FieldType) (v : Option Value) : Prop := match r with
  | none => v = none
  | some .long => ∃ x, v = some (.long x)
  | some (.object _) => ∃ x, v = some (va_rf x)
  | some _ => ∃ x, v = some (.int x)
/-- what a caller does behind a call: o1, h1 are the callee's end -/
def t_back (P : tR) (q qc : tM) (d mi pc : Nat) (ls rest : List Value) (o1 : tO) (h1 : tH) (o : tO) (h' : tH) : Prop := match o1 with
  | .inl v => t_tyo (tm_rt qc) v ∧ P d mi (pc + 3) ls (v.toList ++ rest) h1 o h'
  | .inr E => match t_hd (tm_oc q) pc E (tm_hh q) with
    | none => o = .inr E ∧ h' = h1
    | some hp => ∃ k len2, t_as (decode (tm_by q) hp) = some (k, len2) ∧ k < ls.length ∧ t_nl ls k = true ∧ P d mi (hp + len2) (ls.set k (.float 0)) [] h1 o h'
/-- what a caller sees of a callee's end -/
def t_dc (ci : Nat) (h : tH) : tH := if ci = t_SH then t_dr h else h
def t_cl (P : tR) (q : tM) (d mi pc : Nat) (ls st : List Value) (h : tH) (o : tO) (h' : tH) (len i : Nat) (stat : Bool) : Prop :=
  len = 3 ∧ ∃ ci qc, t_lk t_ct (tm_oc q) i = some ci ∧ t_M[ci]? = some qc ∧ tm_st qc = stat ∧ tm_na qc ≤ st.length ∧ ((st.drop (tm_na qc)).map Value.category).sum ≤ 8 ∧
    (stat = false → ∃ k, (st.take (tm_na qc)).reverse.head? = some (.ref k) ∧ ∃ cj, t_ob k = some cj ∧ t_oci (tm_oc qc) = some cj) ∧ (t_sl (st.take (tm_na qc)).reverse).length ≤ tm_ml qc ∧ t_lev qc (st.take (tm_na qc)).reverse < d ∧
    ∃ o1 h1, P (t_lev qc (st.take (tm_na qc)).reverse) ci 0 (t_ini (st.take (tm_na qc)).reverse (tm_ml qc)) [] h o1 h1 ∧ (ci = t_SH → ∃ x, o1 = .inl (some (.int x))) ∧ t_back P q qc d mi pc ls (st.drop (tm_na qc)) o1 (t_dc ci h1) o h'
def t_do (P : tR) (q : tM) (d mi pc : Nat) (ls st : List Value) (h : tH) (o : tO) (h' : tH) (len : Nat) (ins : Instr) : Prop := match ins with
  | .invokevirtual i => t_cl P q d mi pc ls st h o h' len i false
  | .invokestatic i => if (t_lk t_mt (tm_oc q) i).isSome = true then ((t_st q pc ls st h len (.invokestatic i)).1 ∧ P d mi (t_st q pc ls st h len (.invokestatic i)).2.1 (t_st q pc ls st h len (.invokestatic i)).2.2.1 (t_st q pc ls st h len (.invokestatic i)).2.2.2.1 (t_st q pc ls st h len (.invokestatic i)).2.2.2.2 o h') else t_cl P q d mi pc ls st h o h' len i true
  | .ireturn => len = 1 ∧ ∃ x, st = [.int x] ∧ o = .inl (some (.int x)) ∧ h' = h ∧ (tm_rt q = some .int ∨ (tm_rt q = some .boolean ∧ (x = 0 ∨ x = 1)))
  | .lreturn => len = 1 ∧ ∃ x, st = [.long x] ∧ o = .inl (some (.long x)) ∧ h' = h ∧ tm_rt q = some .long
  | .areturn => len = 1 ∧ ∃ v, st = [v] ∧ (v = .null ∨ ∃ a, v = .ref a) ∧ o = .inl (some v) ∧ h' = h ∧ ∃ C, tm_rt q = some (.object C)
  | .return_ => len = 1 ∧ st = [] ∧ o = .inl none ∧ h' = h ∧ tm_rt q = none
  | .new _ => st = [] ∧ tm_hh q = [] ∧ ∃ E, t_lk t_tt mi pc = some E ∧ o = .inr E ∧ h' = t_X h
  | .newarray t => len = 2 ∧ t = .int ∧ mi = t_SH ∧ st = [.int 4] ∧ h.1 36 0 = 0 ∧ (∀ v ∈ ls, v ≠ .ref 35) ∧ P d mi (pc + 2) ls [.ref 35] (t_A h) o h'
  | ins => (t_st q pc ls st h len ins).1 ∧ P d mi (t_st q pc ls st h len ins).2.1 (t_st q pc ls st h len ins).2.2.1 (t_st q pc ls st h len ins).2.2.2.1 (t_st q pc ls st h len ins).2.2.2.2 o h'
def t_smp (q : tM) (ins : Instr) : Bool := match ins with
  | .invokestatic i => (t_lk t_mt (tm_oc q) i).isSome
  | .invokevirtual _ | .ireturn | .lreturn | .areturn | .return_ | .new _ | .newarray _ => false
  | _ => true
theorem t_do_s {P : tR} {q : tM} {d mi pc : Nat} {ls st : List Value} {h : tH} {o : tO} {h' : tH} {len : Nat} {ins : Instr} (hs : t_smp q ins = true) :
    t_do P q d mi pc ls st h o h' len ins = ((t_st q pc ls st h len ins).1 ∧ P d mi (t_st q pc ls st h len ins).2.1 (t_st q pc ls st h len ins).2.2.1 (t_st q pc ls st h len ins).2.2.2.1 (t_st q pc ls st h len ins).2.2.2.2 o h') := by
  cases ins <;> first | rfl | (simp [t_smp] at hs; done) | (simp only [t_smp] at hs; simp only [t_do, hs, if_true])
theorem t_back_mono {P P' : tR} (hP : ∀ d mi pc ls st h o h', P d mi pc ls st h o h' → P' d mi pc ls st h o h') {q qc d mi pc ls rest o1 h1 o h'} (h : t_back P q qc d mi pc ls rest o1 h1 o h') : t_back P' q qc d mi pc ls rest o1 h1 o h' := by
  unfold t_back at h ⊢
  cases o1 with
  | inl v => exact ⟨h.1, hP _ _ _ _ _ _ _ _ h.2⟩
  | inr E =>
    dsimp only at h ⊢
    cases hh : t_hd (tm_oc q) pc E (tm_hh q) with
    | none => rw [hh] at h; exact h
    | some hp =>
      rw [hh] at h
      obtain ⟨k, len2, a, b, c, e⟩ := h
      exact ⟨k, len2, a, b, c, hP _ _ _ _ _ _ _ _ e⟩
theorem t_cl_mono {P P' : tR} (hP : ∀ d mi pc ls st h o h', P d mi pc ls st h o h' → P' d mi pc ls st h o h') {q d mi pc ls st hh o h' len i stat} (h : t_cl P q d mi pc ls st hh o h' len i stat) : t_cl P' q d mi pc ls st hh o h' len i stat := by
  obtain ⟨a0, ci, qc, a1, a2, a3, a4, a5, a6, a7, a8, o1, h1, a9, a11, a10⟩ := h
  exact ⟨a0, ci, qc, a1, a2, a3, a4, a5, a6, a7, a8, o1, h1, hP _ _ _ _ _ _ _ _ a9, a11, t_back_mono hP a10⟩
theorem t_do_mono {P P' : tR} (hP : ∀ d mi pc ls st h o h', P d mi pc ls st h o h' → P' d mi pc ls st h o h') {q d mi pc ls st h o h' len ins} (hh : t_do P q d mi pc ls st h o h' len ins) : t_do P' q d mi pc ls st h o h' len ins := by
  by_cases hs : t_smp q ins = true
  · rw [t_do_s hs] at hh ⊢
    exact ⟨hh.1, hP _ _ _ _ _ _ _ _ hh.2⟩
  · cases ins <;> first | exact t_cl_mono hP hh | exact hh | exact ⟨hh.1, hh.2.1, hh.2.2.1, hh.2.2.2.1, hh.2.2.2.2.1, hh.2.2.2.2.2.1, hP _ _ _ _ _ _ _ _ hh.2.2.2.2.2.2⟩ | exact absurd rfl hs | (simp only [t_smp] at hs; simp only [t_do, hs, if_false] at hh ⊢; exact t_cl_mono hP hh)
def t_G (P : tR) : tR := fun d mi pc ls st h o h' => ∃ q ins len, t_M[mi]? = some q ∧ decode (tm_by q) pc = .ok (ins, len) ∧ t_do P q d mi pc ls st h o h' len ins
theorem t_G_mono {P P' : tR} (hP : ∀ d mi pc ls st h o h', P d mi pc ls st h o h' → P' d mi pc ls st h o h') {d mi pc ls st h o h'} (hh : t_G P d mi pc ls st h o h') : t_G P' d mi pc ls st h o h' := by
  obtain ⟨q, ins, len, a, b, c⟩ := hh
  exact ⟨q, ins, len, a, b, t_do_mono hP c⟩
/-- from here the machine comes to this end: the least relation that the steps leave -/
def t_Ev : tR := fun d mi pc ls st h o h' => ∀ P : tR, (∀ d mi pc ls st h o h', t_G P d mi pc ls st h o h' → P d mi pc ls st h o h') → P d mi pc ls st h o h'
theorem t_Ev_in {d mi pc ls st h o h'} (hh : t_G t_Ev d mi pc ls st h o h') : t_Ev d mi pc ls st h o h' := by
  intro P hP
  exact hP _ _ _ _ _ _ _ _ (t_G_mono (fun d mi pc ls st h o h' (x : t_Ev d mi pc ls st h o h') => x P hP) hh)
theorem t_Ev_out {d mi pc ls st h o h'} (hh : t_Ev d mi pc ls st h o h') : t_G t_Ev d mi pc ls st h o h' :=
  hh (t_G t_Ev) (fun _ _ _ _ _ _ _ _ x => t_G_mono (fun _ _ _ _ _ _ _ _ y => t_Ev_in y) x)
theorem t_Ev_at {mi pc : Nat} {q : tM} {ins : Instr} {len : Nat} (hq : t_M[mi]? = some q) (hd : decode (tm_by q) pc = .ok (ins, len)) (d : Nat) (ls st : List Value) (h : tH) (o : tO) (h' : tH) :
    t_Ev d mi pc ls st h o h' = t_do t_Ev q d mi pc ls st h o h' len ins := by
  refine propext ⟨fun hh => ?_, fun hh => t_Ev_in ⟨q, ins, len, hq, hd, hh⟩⟩
  obtain ⟨q2, ins2, len2, a, b, c⟩ := t_Ev_out hh
  cases hq.symm.trans a
  cases hd.symm.trans b
  exact c
/-- from here the machine comes to an end of which Q holds -/
def AX (d mi pc : Nat) (ls st : List Value) (h : tH) (Q : tO → tH → Prop) : Prop := ∃ o h', t_Ev d mi pc ls st h o h' ∧ Q o h'
/-- a method, called -/
def AM (ci : Nat) (args : List Value) (h : tH) (Q : tO → tH → Prop) : Prop := ∃ qc, t_M[ci]? = some qc ∧ AX (t_lev qc args) ci 0 (t_ini args (tm_ml qc)) [] h Q
theorem AX_mono {d mi pc ls st h} {Q Q' : tO → tH → Prop} (hh : AX d mi pc ls st h Q) (k : ∀ o h', Q o h' → Q' o h') : AX d mi pc ls st h Q' := by
  obtain ⟨o, h', a, b⟩ := hh
  exact ⟨o, h', a, k _ _ b⟩
theorem AM_mono {ci args h} {Q Q' : tO → tH → Prop} (hh : AM ci args h Q) (k : ∀ o h', Q o h' → Q' o h') : AM ci args h Q' := by
  obtain ⟨qc, a, b⟩ := hh
  exact ⟨qc, a, AX_mono b k⟩
theorem AM_at {ci : Nat} {qc : tM} (hq : t_M[ci]? = some qc) (args : List Value) (h : tH) (Q : tO → tH → Prop) : AM ci args h Q = AX (t_lev qc args) ci 0 (t_ini args (tm_ml qc)) [] h Q := by
  refine propext ⟨fun ⟨q2, a, b⟩ => ?_, fun b => ⟨qc, hq, b⟩⟩
  cases hq.symm.trans a
  exact b
theorem AX_s {mi pc : Nat} {q : tM} {ins : Instr} {len : Nat} (hq : t_M[mi]? = some q) (hd : decode (tm_by q) pc = .ok (ins, len)) (hs : t_smp q ins = true) (d : Nat) (ls st : List Value) (h : tH) (Q : tO → tH → Prop) :
    AX d mi pc ls st h Q = ((t_st q pc ls st h len ins).1 ∧ AX d mi (t_st q pc ls st h len ins).2.1 (t_st q pc ls st h len ins).2.2.1 (t_st q pc ls st h len ins).2.2.2.1 (t_st q pc ls st h len ins).2.2.2.2 Q) := by
  unfold AX
  refine propext ⟨fun ⟨o, h', a, b⟩ => ?_, fun ⟨g, o, h', a, b⟩ => ⟨o, h', ?_, b⟩⟩
  · rw [t_Ev_at hq hd, t_do_s hs] at a
    exact ⟨a.1, o, h', a.2, b⟩
  · rw [t_Ev_at hq hd, t_do_s hs]
    exact ⟨g, a⟩
/-- the step's data, told apart: what holds, and where it goes on -/
theorem AX_t {mi pc : Nat} {q : tM} {ins : Instr} {len : Nat} (hq : t_M[mi]? = some q) (hd : decode (tm_by q) pc = .ok (ins, len)) (hs : t_smp q ins = true) {d : Nat} {ls st : List Value} {h : tH} {Q : tO → tH → Prop} {g g' : Prop} {pc' : Nat} {ls' st' : List Value} {h' : tH}
    (e : t_st q pc ls st h len ins = (g, pc', ls', st', h')) (hg : g = g') : AX d mi pc ls st h Q = (g' ∧ AX d mi pc' ls' st' h' Q) := by
  rw [AX_s hq hd hs, e, hg]
theorem AX_tt {mi pc : Nat} {q : tM} {ins : Instr} {len : Nat} (hq : t_M[mi]? = some q) (hd : decode (tm_by q) pc = .ok (ins, len)) (hs : t_smp q ins = true) {d : Nat} {ls st : List Value} {h : tH} {Q : tO → tH → Prop} {g : Prop} {pc' : Nat} {ls' st' : List Value} {h' : tH}
    (e : t_st q pc ls st h len ins = (g, pc', ls', st', h')) (hg : g) : AX d mi pc ls st h Q = AX d mi pc' ls' st' h' Q := by
  rw [AX_s hq hd hs, e]
  exact propext ⟨fun x => x.2, fun x => ⟨hg, x⟩⟩
/-- behind a call that answers a number, a long, nothing, a thing, a thing or null -/
def t_ki (f : Int32 → tH → Prop) (Q : tO → tH → Prop) : tO → tH → Prop := fun o h => match o with
  | .inl (some (.int r)) => f r h
  | .inr E => Q (.inr E) h
  | _ => False
def t_kl (f : Int64 → tH → Prop) (Q : tO → tH → Prop) : tO → tH → Prop := fun o h => match o with
  | .inl (some (.long r)) => f r h
  | .inr E => Q (.inr E) h
  | _ => False
def t_kv (f : tH → Prop) (Q : tO → tH → Prop) : tO → tH → Prop := fun o h => match o with
  | .inl none => f h
  | .inr E => Q (.inr E) h
  | _ => False
def t_kq (f : Option Nat → tH → Prop) (Q : tO → tH → Prop) : tO → tH → Prop := fun o h => match o with
  | .inl (some (.ref r)) => f (some r) h
  | .inl (some .null) => f none h
  | .inr E => Q (.inr E) h
  | _ => False
/-- behind a call, with the caller's own table -/
def t_kb (q qc : tM) (d mi pc : Nat) (ls rest : List Value) (Q : tO → tH → Prop) : tO → tH → Prop := fun o1 h1 => match o1 with
  | .inl v => t_tyo (tm_rt qc) v ∧ AX d mi (pc + 3) ls (v.toList ++ rest) h1 Q
  | .inr E => match t_hd (tm_oc q) pc E (tm_hh q) with
    | none => Q (.inr E) h1
    | some hp => ∃ k len2, t_as (decode (tm_by q) hp) = some (k, len2) ∧ k < ls.length ∧ t_nl ls k = true ∧ AX d mi (hp + len2) (ls.set k (.float 0)) [] h1 Q
theorem t_back_AX {q qc : tM} {d mi pc : Nat} {ls rest : List Value} {Q : tO → tH → Prop} {o1 : tO} {h1 : tH} : (∃ o h', t_back t_Ev q qc d mi pc ls rest o1 h1 o h' ∧ Q o h') ↔ t_kb q qc d mi pc ls rest Q o1 h1 := by
  unfold t_back t_kb AX
  cases o1 with
  | inl v =>
    dsimp only
    exact ⟨fun ⟨o, h', ⟨a, b⟩, c⟩ => ⟨a, o, h', b, c⟩, fun ⟨a, o, h', b, c⟩ => ⟨o, h', ⟨a, b⟩, c⟩⟩
  | inr E =>
    dsimp only
    cases hh : t_hd (tm_oc q) pc E (tm_hh q) with
    | none =>
      dsimp only
      exact ⟨fun ⟨o, h', ⟨a, b⟩, c⟩ => by rw [a, b] at c; exact c, fun c => ⟨_, _, ⟨rfl, rfl⟩, c⟩⟩
    | some hp =>
      dsimp only
      exact ⟨fun ⟨o, h', ⟨k, len2, a, b, c, e⟩, f⟩ => ⟨k, len2, a, b, c, o, h', e, f⟩, fun ⟨k, len2, a, b, c, o, h', e, f⟩ => ⟨o, h', ⟨k, len2, a, b, c, e⟩, f⟩⟩
/-- a call -/
theorem AX_c {mi pc i ci : Nat} {q qc : tM} {ins : Instr} {stat : Bool} (hq : t_M[mi]? = some q) (hd : decode (tm_by q) pc = .ok (ins, 3)) (hi : (ins = .invokevirtual i ∧ stat = false) ∨ (ins = .invokestatic i ∧ t_lk t_mt (tm_oc q) i = none ∧ stat = true))
    (hc : t_lk t_ct (tm_oc q) i = some ci) (hqc : t_M[ci]? = some qc) (hs : tm_st qc = stat) {d : Nat} {ls st as rest : List Value} {h : tH} {Q : tO → tH → Prop}
    (hn : tm_na qc ≤ st.length) (ha : (st.take (tm_na qc)).reverse = as) (hr : st.drop (tm_na qc) = rest) (hw : (rest.map Value.category).sum ≤ 8) (hl : (t_sl as).length ≤ tm_ml qc) (hne : (ci == t_SH) = false := by rfl) :
    AX d mi pc ls st h Q = (((stat = false → ∃ k, as.head? = some (.ref k) ∧ ∃ cj, t_ob k = some cj ∧ t_oci (tm_oc qc) = some cj) ∧ t_lev qc as < d) ∧ AM ci as h (t_kb q qc d mi pc ls rest Q)) := by
  have hdo : ∀ o h', t_do t_Ev q d mi pc ls st h o h' 3 ins = t_cl t_Ev q d mi pc ls st h o h' 3 i stat := by
    intro o h'
    rcases hi with ⟨rfl, rfl⟩ | ⟨rfl, h9, rfl⟩
    · rfl
    · simp only [t_do, h9, Option.isSome_none, Bool.false_eq_true, if_false]
  have hdc : ∀ u, t_dc ci u = u := fun u => if_neg (by simpa using hne)
  rw [AM_at hqc]
  refine propext ⟨fun ⟨o, h', a, b⟩ => ?_, fun ⟨⟨g1, g2⟩, o1, h1, a, b⟩ => ?_⟩
  · rw [t_Ev_at hq hd, hdo] at a
    obtain ⟨a0, ci2, qc2, a1, a2, a3, a4, a5, a6, a7, a8, o1, h1, a9, -, a10⟩ := a
    cases hc.symm.trans a1
    cases hqc.symm.trans a2
    rw [ha] at a6 a7 a8 a9
    rw [hr, hdc] at a10
    exact ⟨⟨a6, a8⟩, o1, h1, a9, t_back_AX.mp ⟨o, h', a10, b⟩⟩
  · obtain ⟨o, h', c, e⟩ := t_back_AX.mpr b
    refine ⟨o, h', ?_, e⟩
    rw [t_Ev_at hq hd, hdo]
    refine ⟨rfl, ci, qc, hc, hqc, hs, hn, by rw [hr]; exact hw, by rw [ha]; exact g1, by rw [ha]; exact hl, by rw [ha]; exact g2, o1, h1, by rw [ha]; exact a, fun z => absurd z (by simpa using hne), by rw [hr, hdc]; exact c⟩
theorem t_kb_i {q qc : tM} {d mi pc : Nat} {ls rest : List Value} {Q : tO → tH → Prop} (hh : tm_hh q = []) {ty : FieldType} (hr : tm_rt qc = some ty) (ht : ty = .int ∨ ty = .boolean) : t_kb q qc d mi pc ls rest Q = t_ki (fun r h1 => AX d mi (pc + 3) ls (.int r :: rest) h1 Q) Q := by
  funext o h
  unfold t_kb t_ki
  rw [hh, hr]
  cases o with
  | inl v => rcases ht with rfl | rfl <;> (cases v with
    | none => simp [t_tyo]
    | some v => cases v <;> simp [t_tyo, va_rf])
  | inr E => rfl
theorem t_kb_l {q qc : tM} {d mi pc : Nat} {ls rest : List Value} {Q : tO → tH → Prop} (hh : tm_hh q = []) (hr : tm_rt qc = some .long) : t_kb q qc d mi pc ls rest Q = t_kl (fun r h1 => AX d mi (pc + 3) ls (.long r :: rest) h1 Q) Q := by
  funext o h
  unfold t_kb t_kl
  rw [hh, hr]
  cases o with
  | inl v => cases v with
    | none => simp [t_tyo]
    | some v => cases v <;> simp [t_tyo]
  | inr E => rfl
theorem t_kb_v {q qc : tM} {d mi pc : Nat} {ls rest : List Value} {Q : tO → tH → Prop} (hh : tm_hh q = []) (hr : tm_rt qc = none) : t_kb q qc d mi pc ls rest Q = t_kv (fun h1 => AX d mi (pc + 3) ls rest h1 Q) Q := by
  funext o h
  unfold t_kb t_kv
  rw [hh, hr]
  cases o with
  | inl v => cases v with
    | none => simp [t_tyo]
    | some v => simp [t_tyo]
  | inr E => rfl
theorem t_kb_q {q qc : tM} {d mi pc : Nat} {ls rest : List Value} {Q : tO → tH → Prop} (hh : tm_hh q = []) {C : String} (hr : tm_rt qc = some (.object C)) : t_kb q qc d mi pc ls rest Q = t_kq (fun r h1 => AX d mi (pc + 3) ls (va_rf r :: rest) h1 Q) Q := by
  funext o h
  unfold t_kb t_kq
  rw [hh, hr]
  cases o with
  | inl v => cases v with
    | none => simp [t_tyo]
    | some v => cases v with
      | null => simp only [t_tyo]; exact propext ⟨fun x => x.2, fun x => ⟨⟨none, rfl⟩, x⟩⟩
      | ref a => simp only [t_tyo]; exact propext ⟨fun x => x.2, fun x => ⟨⟨some a, rfl⟩, x⟩⟩
      | _ => simp only [t_tyo]; refine propext ⟨fun ⟨⟨x, hx⟩, _⟩ => ?_, fun x => x.elim⟩; cases x <;> cases hx
  | inr E => rfl
/-- the ends of a method -/
theorem AX_ri {mi pc : Nat} {q : tM} (hq : t_M[mi]? = some q) (hd : decode (tm_by q) pc = .ok (.ireturn, 1)) (hr : tm_rt q = some .int) {d : Nat} {ls : List Value} {x : Int32} {h : tH} {Q : tO → tH → Prop} : AX d mi pc ls [.int x] h Q = Q (.inl (some (.int x))) h := by
  refine propext ⟨fun ⟨o, h', a, b⟩ => ?_, fun b => ⟨_, _, ?_, b⟩⟩
  · rw [t_Ev_at hq hd] at a
    obtain ⟨-, y, e1, e2, e3, -⟩ := a
    cases e1
    rw [e2, e3] at b
    exact b
  · rw [t_Ev_at hq hd]
    exact ⟨rfl, x, rfl, rfl, rfl, Or.inl hr⟩
theorem AX_rz {mi pc : Nat} {q : tM} (hq : t_M[mi]? = some q) (hd : decode (tm_by q) pc = .ok (.ireturn, 1)) (hr : tm_rt q = some .boolean) {d : Nat} {ls : List Value} {x : Int32} {h : tH} {Q : tO → tH → Prop} : AX d mi pc ls [.int x] h Q = ((x = 0 ∨ x = 1) ∧ Q (.inl (some (.int x))) h) := by
  refine propext ⟨fun ⟨o, h', a, b⟩ => ?_, fun ⟨g, b⟩ => ⟨_, _, ?_, b⟩⟩
  · rw [t_Ev_at hq hd] at a
    obtain ⟨-, y, e1, e2, e3, e4⟩ := a
    cases e1
    rw [e2, e3] at b
    rw [hr] at e4
    rcases e4 with e4 | e4
    · cases e4
    · exact ⟨e4.2, b⟩
  · rw [t_Ev_at hq hd]
    exact ⟨rfl, x, rfl, rfl, rfl, Or.inr ⟨hr, g⟩⟩
theorem AX_rl {mi pc : Nat} {q : tM} (hq : t_M[mi]? = some q) (hd : decode (tm_by q) pc = .ok (.lreturn, 1)) (hr : tm_rt q = some .long) {d : Nat} {ls : List Value} {x : Int64} {h : tH} {Q : tO → tH → Prop} : AX d mi pc ls [.long x] h Q = Q (.inl (some (.long x))) h := by
  refine propext ⟨fun ⟨o, h', a, b⟩ => ?_, fun b => ⟨_, _, ?_, b⟩⟩
  · rw [t_Ev_at hq hd] at a
    obtain ⟨-, y, e1, e2, e3, -⟩ := a
    cases e1
    rw [e2, e3] at b
    exact b
  · rw [t_Ev_at hq hd]
    exact ⟨rfl, x, rfl, rfl, rfl, hr⟩
theorem AX_rv {mi pc : Nat} {q : tM} (hq : t_M[mi]? = some q) (hd : decode (tm_by q) pc = .ok (.return_, 1)) (hr : tm_rt q = none) {d : Nat} {ls : List Value} {h : tH} {Q : tO → tH → Prop} : AX d mi pc ls [] h Q = Q (.inl none) h := by
  refine propext ⟨fun ⟨o, h', a, b⟩ => ?_, fun b => ⟨_, _, ?_, b⟩⟩
  · rw [t_Ev_at hq hd] at a
    obtain ⟨-, -, e2, e3, -⟩ := a
    rw [e2, e3] at b
    exact b
  · rw [t_Ev_at hq hd]
    exact ⟨rfl, rfl, rfl, rfl, hr⟩
theorem AX_ra {mi pc : Nat} {q : tM} (hq : t_M[mi]? = some q) (hd : decode (tm_by q) pc = .ok (.areturn, 1)) {C : String} (hr : tm_rt q = some (.object C)) {d : Nat} {ls : List Value} {x : Option Nat} {h : tH} {Q : tO → tH → Prop} : AX d mi pc ls [va_rf x] h Q = Q (.inl (some (va_rf x))) h := by
  refine propext ⟨fun ⟨o, h', a, b⟩ => ?_, fun b => ⟨_, _, ?_, b⟩⟩
  · rw [t_Ev_at hq hd] at a
    obtain ⟨-, y, e1, -, e2, e3, -⟩ := a
    cases e1
    rw [e2, e3] at b
    exact b
  · rw [t_Ev_at hq hd]
    exact ⟨rfl, _, rfl, by cases x with | none => exact Or.inl rfl | some a => exact Or.inr ⟨a, rfl⟩, rfl, rfl, C, hr⟩
/-- throw new E("..") -/
theorem AX_th {mi pc i E len : Nat} {q : tM} (hq : t_M[mi]? = some q) (hd : decode (tm_by q) pc = .ok (.new i, len)) (hh : tm_hh q = []) (ht : t_lk t_tt mi pc = some E) {d : Nat} {ls : List Value} {h : tH} {Q : tO → tH → Prop} : AX d mi pc ls [] h Q = Q (.inr E) (t_X h) := by
  refine propext ⟨fun ⟨o, h', a, b⟩ => ?_, fun b => ⟨_, _, ?_, b⟩⟩
  · rw [t_Ev_at hq hd] at a
    obtain ⟨-, -, E2, e1, e2, e3⟩ := a
    cases ht.symm.trans e1
    rw [e2, e3] at b
    exact b
  · rw [t_Ev_at hq hd]
    exact ⟨rfl, hh, E, ht, rfl, rfl⟩
/-- the call of the method that makes a row -/
def t_kd (f : Int32 → tH → Prop) : tO → tH → Prop := fun o h => match o with
  | .inl (some (.int r)) => f r (t_dr h)
  | _ => False
theorem AX_cs {mi pc i : Nat} {q qc : tM} (hq : t_M[mi]? = some q) (hd : decode (tm_by q) pc = .ok (.invokestatic i, 3)) (h9 : t_lk t_mt (tm_oc q) i = none)
    (hc : t_lk t_ct (tm_oc q) i = some t_SH) (hqc : t_M[t_SH]? = some qc) (hs : tm_st qc = true) (hrt : tm_rt qc = some .boolean) {d : Nat} {ls st as rest : List Value} {h : tH} {Q : tO → tH → Prop}
    (hn : tm_na qc ≤ st.length) (ha : (st.take (tm_na qc)).reverse = as) (hr : st.drop (tm_na qc) = rest) (hw : (rest.map Value.category).sum ≤ 8) (hl : (t_sl as).length ≤ tm_ml qc) (hlev : t_lev qc as < d) :
    AX d mi pc ls st h Q = AM t_SH as h (t_kd (fun r h1 => AX d mi (pc + 3) ls (.int r :: rest) h1 Q)) := by
  have hdo : ∀ o h', t_do t_Ev q d mi pc ls st h o h' 3 (.invokestatic i) = t_cl t_Ev q d mi pc ls st h o h' 3 i true := by
    intro o h'
    simp only [t_do, h9, Option.isSome_none, Bool.false_eq_true, if_false]
  rw [AM_at hqc]
  have hdc : ∀ u, t_dc t_SH u = t_dr u := fun u => if_pos rfl
  refine propext ⟨fun ⟨o, h', a, b⟩ => ?_, fun ⟨o1, h1, a, b⟩ => ?_⟩
  · rw [t_Ev_at hq hd, hdo] at a
    obtain ⟨a0, ci2, qc2, a1, a2, a3, a4, a5, a6, a7, a8, o1, h1, a9, a11, a10⟩ := a
    cases hc.symm.trans a1
    cases hqc.symm.trans a2
    rw [ha] at a6 a7 a8 a9
    rw [hr, hdc] at a10
    obtain ⟨x, rfl⟩ := a11 rfl
    exact ⟨_, h1, a9, o, h', a10.2, b⟩
  · unfold t_kd at b
    split at b
    · rename_i r
      obtain ⟨o, h', c, e⟩ := b
      refine ⟨o, h', ?_, e⟩
      rw [t_Ev_at hq hd, hdo]
      refine ⟨rfl, t_SH, qc, hc, hqc, hs, hn, by rw [hr]; exact hw, fun z => (nomatch z), by rw [ha]; exact hl, by rw [ha]; exact hlev, _, h1, by rw [ha]; exact a, fun _ => ⟨r, rfl⟩, ?_⟩
      rw [hr, hdc]
      exact ⟨by rw [hrt]; exact ⟨r, rfl⟩, c⟩
    · exact b.elim
theorem AX_na {mi pc : Nat} {q : tM} (hq : t_M[mi]? = some q) (hd : decode (tm_by q) pc = .ok (.newarray .int, 2)) (hm : mi = t_SH) {d : Nat} {ls : List Value} {h : tH} {Q : tO → tH → Prop} :
    AX d mi pc ls [.int 4] h Q = ((h.1 36 0 = 0 ∧ ∀ v ∈ ls, v ≠ .ref 35) ∧ AX d mi (pc + 2) ls [.ref 35] (t_A h) Q) := by
  unfold AX
  refine propext ⟨fun ⟨o, h', a, b⟩ => ?_, fun ⟨g, o, h', a, b⟩ => ⟨o, h', ?_, b⟩⟩
  · rw [t_Ev_at hq hd] at a
    obtain ⟨-, -, -, -, a1, a2, a3⟩ := a
    exact ⟨⟨a1, a2⟩, o, h', a3, b⟩
  · rw [t_Ev_at hq hd]
    exact ⟨rfl, rfl, hm, rfl, g.1, g.2, a⟩
end
section
set_option maxRecDepth 100000 in
theorem tcode_112 : tables_1[541]? = some (Cond.code yL_shapes cL_shapes 21 (some .boolean)) := rfl
end
section
/-! ===== the tables' words, for the small machine ===== -/
def t_gw (w : Cond) : Bool := w.onTables && (goodWord w || match w with
  | .fieldLinkNest .. => true
  | .methodLinkNest .. => true
  | .castable .. => true
  | .declares _ => true
  | _ => false)
def t_cn (oc : Nat) : String := match oc with
  | 0 => RX0
  | 1 => RX1
  | 2 => RX2
  | 3 => RX3
  | 4 => RX4
  | 5 => RX5
  | 6 => RX6
  | 7 => RX7
  | 8 => RX8
  | 9 => RX9
  | 10 => RX10
  | 11 => RJ6
  | 12 => RJ9
  | _ => "TurnsHallLaw"
def t_cls : List vw_C := [(RX9, TX9, 7), (RX6, TX6, 3), (RX8, TX8, 4), (RX5, TX5, 2), (RX4, TX4, 4), (RX2, TX2, 6), (RX7, TX7, 2)]
/-- the kinds of the fields, by their slots -/
def t_ft (ci : Nat) : List Nat := match ci with
  | 0 => [3, 3, 3, 0, 3, 3, 3]
  | 1 => [3, 3, 0]
  | 2 => [3, 3, 3, 0]
  | 3 => [3, 0]
  | 4 => [3, 4, 0, 2]
  | 5 => [3, 3, 3, 1, 0, 1]
  | 6 => [3, 0]
  | _ => []
theorem t_uw_0 : ∀ w ∈ u_ws RX9 TX9 7, w ∈ lw_tbl ∧ t_gw w = true := by
  show ∀ w ∈ ([.laysFinal RX9 "TurnsHall" "shelf" "LTurnsHall$Shelf;", .laysFinal RX9 "TurnsHall" "word" "LTurnsHall$Word;", .laysFinal RX9 "TurnsHall" "hall" "[LTurnsHall$Drawing;", .lays RX9 "TurnsHall" "made" "I", .laysFinal RX9 "TurnsHall" "segments" "LTurnsHall$Segments;", .laysFinal RX9 "TurnsHall" "naming" "LTurnsHall$Naming;", .laysFinal RX9 "TurnsHall" "extended" "LTurnsHall$Signs;"] : List Cond), w ∈ lw_tbl ∧ t_gw w = true
  exact List.forall_mem_cons.mpr ⟨⟨List.mem_append_right _ (List.mem_of_getElem? (i := 151) (by decide +kernel)), rfl⟩, List.forall_mem_cons.mpr ⟨⟨List.mem_append_right _ (List.mem_of_getElem? (i := 153) (by decide +kernel)), rfl⟩, List.forall_mem_cons.mpr ⟨⟨List.mem_append_right _ (List.mem_of_getElem? (i := 155) (by decide +kernel)), rfl⟩, List.forall_mem_cons.mpr ⟨⟨List.mem_append_right _ (List.mem_of_getElem? (i := 157) (by decide +kernel)), rfl⟩, List.forall_mem_cons.mpr ⟨⟨List.mem_append_right _ (List.mem_of_getElem? (i := 159) (by decide +kernel)), rfl⟩, List.forall_mem_cons.mpr ⟨⟨List.mem_append_right _ (List.mem_of_getElem? (i := 161) (by decide +kernel)), rfl⟩, List.forall_mem_cons.mpr ⟨⟨List.mem_append_right _ (List.mem_of_getElem? (i := 163) (by decide +kernel)), rfl⟩, fun _ h => absurd h List.not_mem_nil⟩⟩⟩⟩⟩⟩⟩
theorem t_uw_1 : ∀ w ∈ u_ws RX6 TX6 3, w ∈ lw_tbl ∧ t_gw w = true := by
  show ∀ w ∈ ([.laysFinal RX6 "TurnsHall$Shelf" "xs" "[I", .laysFinal RX6 "TurnsHall$Shelf" "ys" "[I", .lays RX6 "TurnsHall$Shelf" "count" "I"] : List Cond), w ∈ lw_tbl ∧ t_gw w = true
  exact List.forall_mem_cons.mpr ⟨⟨List.mem_append_right _ (List.mem_of_getElem? (i := 37) (by decide +kernel)), rfl⟩, List.forall_mem_cons.mpr ⟨⟨List.mem_append_right _ (List.mem_of_getElem? (i := 39) (by decide +kernel)), rfl⟩, List.forall_mem_cons.mpr ⟨⟨List.mem_append_right _ (List.mem_of_getElem? (i := 41) (by decide +kernel)), rfl⟩, fun _ h => absurd h List.not_mem_nil⟩⟩⟩
theorem t_uw_2 : ∀ w ∈ u_ws RX8 TX8 4, w ∈ lw_tbl ∧ t_gw w = true := by
  show ∀ w ∈ ([.laysFinal RX8 "TurnsHall$Word" "letters" "[I", .laysFinal RX8 "TurnsHall$Word" "lineAt" "[I", .laysFinal RX8 "TurnsHall$Word" "crossedBy" "[I", .lays RX8 "TurnsHall$Word" "count" "I"] : List Cond), w ∈ lw_tbl ∧ t_gw w = true
  exact List.forall_mem_cons.mpr ⟨⟨List.mem_append_right _ (List.mem_of_getElem? (i := 54) (by decide +kernel)), rfl⟩, List.forall_mem_cons.mpr ⟨⟨List.mem_append_right _ (List.mem_of_getElem? (i := 56) (by decide +kernel)), rfl⟩, List.forall_mem_cons.mpr ⟨⟨List.mem_append_right _ (List.mem_of_getElem? (i := 58) (by decide +kernel)), rfl⟩, List.forall_mem_cons.mpr ⟨⟨List.mem_append_right _ (List.mem_of_getElem? (i := 60) (by decide +kernel)), rfl⟩, fun _ h => absurd h List.not_mem_nil⟩⟩⟩⟩
theorem t_uw_3 : ∀ w ∈ u_ws RX5 TX5 2, w ∈ lw_tbl ∧ t_gw w = true := by
  show ∀ w ∈ ([.laysFinal RX5 "TurnsHall$Segments" "crossing" "[I", .lays RX5 "TurnsHall$Segments" "points" "I"] : List Cond), w ∈ lw_tbl ∧ t_gw w = true
  exact List.forall_mem_cons.mpr ⟨⟨List.mem_append_right _ (List.mem_of_getElem? (i := 73) (by decide +kernel)), rfl⟩, List.forall_mem_cons.mpr ⟨⟨List.mem_append_right _ (List.mem_of_getElem? (i := 75) (by decide +kernel)), rfl⟩, fun _ h => absurd h List.not_mem_nil⟩⟩
theorem t_uw_4 : ∀ w ∈ u_ws RX4 TX4 4, w ∈ lw_tbl ∧ t_gw w = true := by
  show ∀ w ∈ ([.laysFinal RX4 "TurnsHall$Naming" "named" "[I", .lays RX4 "TurnsHall$Naming" "signs" "LTurnsHall$Signs;", .lays RX4 "TurnsHall$Naming" "factor" "I", .lays RX4 "TurnsHall$Naming" "least" "J"] : List Cond), w ∈ lw_tbl ∧ t_gw w = true
  exact List.forall_mem_cons.mpr ⟨⟨List.mem_append_right _ (List.mem_of_getElem? (i := 85) (by decide +kernel)), rfl⟩, List.forall_mem_cons.mpr ⟨⟨List.mem_append_right _ (List.mem_of_getElem? (i := 87) (by decide +kernel)), rfl⟩, List.forall_mem_cons.mpr ⟨⟨List.mem_append_right _ (List.mem_of_getElem? (i := 89) (by decide +kernel)), rfl⟩, List.forall_mem_cons.mpr ⟨⟨List.mem_append_right _ (List.mem_of_getElem? (i := 91) (by decide +kernel)), rfl⟩, fun _ h => absurd h List.not_mem_nil⟩⟩⟩⟩
theorem t_uw_5 : ∀ w ∈ u_ws RX2 TX2 6, w ∈ lw_tbl ∧ t_gw w = true := by
  show ∀ w ∈ ([.laysFinal RX2 "TurnsHall$Drawing" "signs" "LTurnsHall$Signs;", .laysFinal RX2 "TurnsHall$Drawing" "xs" "[I", .laysFinal RX2 "TurnsHall$Drawing" "ys" "[I", .lays RX2 "TurnsHall$Drawing" "numbered" "Z", .lays RX2 "TurnsHall$Drawing" "edges" "I", .lays RX2 "TurnsHall$Drawing" "triangulated" "Z"] : List Cond), w ∈ lw_tbl ∧ t_gw w = true
  exact List.forall_mem_cons.mpr ⟨⟨List.mem_append_right _ (List.mem_of_getElem? (i := 131) (by decide +kernel)), rfl⟩, List.forall_mem_cons.mpr ⟨⟨List.mem_append_right _ (List.mem_of_getElem? (i := 133) (by decide +kernel)), rfl⟩, List.forall_mem_cons.mpr ⟨⟨List.mem_append_right _ (List.mem_of_getElem? (i := 135) (by decide +kernel)), rfl⟩, List.forall_mem_cons.mpr ⟨⟨List.mem_append_right _ (List.mem_of_getElem? (i := 137) (by decide +kernel)), rfl⟩, List.forall_mem_cons.mpr ⟨⟨List.mem_append_right _ (List.mem_of_getElem? (i := 139) (by decide +kernel)), rfl⟩, List.forall_mem_cons.mpr ⟨⟨List.mem_append_right _ (List.mem_of_getElem? (i := 141) (by decide +kernel)), rfl⟩, fun _ h => absurd h List.not_mem_nil⟩⟩⟩⟩⟩⟩
theorem t_uw_6 : ∀ w ∈ u_ws RX7 TX7 2, w ∈ lw_tbl ∧ t_gw w = true := by
  show ∀ w ∈ ([.laysFinal RX7 "TurnsHall$Signs" "table" "[I", .lays RX7 "TurnsHall$Signs" "count" "I"] : List Cond), w ∈ lw_tbl ∧ t_gw w = true
  exact List.forall_mem_cons.mpr ⟨⟨List.mem_append_right _ (List.mem_of_getElem? (i := 107) (by decide +kernel)), rfl⟩, List.forall_mem_cons.mpr ⟨⟨List.mem_append_right _ (List.mem_of_getElem? (i := 109) (by decide +kernel)), rfl⟩, fun _ h => absurd h List.not_mem_nil⟩⟩
def t_Cok (ci : Nat) (q : vw_C) : Prop := (∀ w ∈ u_ws q.1 q.2.1 q.2.2, w ∈ lw_tbl ∧ t_gw w = true) ∧ (∃ ty0 : Nat → FieldType, ∀ k, k < q.2.2 → parseFieldDescriptor (q.2.1 k).2.2.1 = some (ty0 k)) ∧ (∀ a, a < q.2.2 → ∀ b, b < q.2.2 → a ≠ b → (q.2.1 a).2.1 ≠ (q.2.1 b).2.1) ∧ (t_ft ci).length = q.2.2
theorem t_cok : ∀ (ci : Nat) (q : vw_C), t_cls[ci]? = some q → t_Cok ci q := by
  intro ci q h
  match ci, h with
  | 0, h => cases h; exact ⟨t_uw_0, ⟨tyX9, tyX9_ok⟩, nmX9, rfl⟩
  | 1, h => cases h; exact ⟨t_uw_1, ⟨tyX6, tyX6_ok⟩, nmX6, rfl⟩
  | 2, h => cases h; exact ⟨t_uw_2, ⟨tyX8, tyX8_ok⟩, nmX8, rfl⟩
  | 3, h => cases h; exact ⟨t_uw_3, ⟨tyX5, tyX5_ok⟩, nmX5, rfl⟩
  | 4, h => cases h; exact ⟨t_uw_4, ⟨tyX4, tyX4_ok⟩, nmX4, rfl⟩
  | 5, h => cases h; exact ⟨t_uw_5, ⟨tyX2, tyX2_ok⟩, nmX2, rfl⟩
  | 6, h => cases h; exact ⟨t_uw_6, ⟨tyX7, tyX7_ok⟩, nmX7, rfl⟩
  | n + 7, h => simp [t_cls] at h
def t_Fok (f : Nat × Nat × Nat × Nat × Nat × Bool) : Prop := ∃ q : vw_C, t_cls[f.2.2.1]? = some q ∧ f.2.2.2.1 < q.2.2 ∧ (t_ft f.2.2.1)[f.2.2.2.1]? = some f.2.2.2.2.1 ∧ (q.2.1 f.2.2.2.1).2.2.2 = f.2.2.2.2.2 ∧
  ((Cond.fieldLink (t_cn f.1) f.2.1 (q.2.1 f.2.2.2.1).1 (q.2.1 f.2.2.2.1).2.1 (q.2.1 f.2.2.2.1).2.2.1 ∈ lw_tbl) ∨ ∃ host, Cond.fieldLinkNest (t_cn f.1) f.2.1 (q.2.1 f.2.2.2.1).1 (q.2.1 f.2.2.2.1).2.1 (q.2.1 f.2.2.2.1).2.2.1 host ∈ lw_tbl) ∧
  (f.2.2.2.2.1 = 0 → parseFieldDescriptor (q.2.1 f.2.2.2.1).2.2.1 = some .int) ∧ (f.2.2.2.2.1 = 1 → parseFieldDescriptor (q.2.1 f.2.2.2.1).2.2.1 = some .boolean) ∧ (f.2.2.2.2.1 = 2 → parseFieldDescriptor (q.2.1 f.2.2.2.1).2.2.1 = some .long) ∧ (f.2.2.2.2.1 = 4 → ∃ C, parseFieldDescriptor (q.2.1 f.2.2.2.1).2.2.1 = some (.object C))
theorem tf_0 : t_Fok (2, 12, 5, 0, 3, true) := ⟨(RX2, TX2, 6), rfl, by decide, rfl, rfl, Or.inl (List.mem_append_right _ (List.mem_of_getElem? (i := 119) (by decide +kernel))), fun h => absurd h (by decide), fun h => absurd h (by decide), fun h => absurd h (by decide), fun h => absurd h (by decide)⟩
theorem tf_1 : t_Fok (2, 18, 5, 1, 3, true) := ⟨(RX2, TX2, 6), rfl, by decide, rfl, rfl, Or.inl (List.mem_append_right _ (List.mem_of_getElem? (i := 121) (by decide +kernel))), fun h => absurd h (by decide), fun h => absurd h (by decide), fun h => absurd h (by decide), fun h => absurd h (by decide)⟩
theorem tf_2 : t_Fok (2, 22, 5, 2, 3, true) := ⟨(RX2, TX2, 6), rfl, by decide, rfl, rfl, Or.inl (List.mem_append_right _ (List.mem_of_getElem? (i := 123) (by decide +kernel))), fun h => absurd h (by decide), fun h => absurd h (by decide), fun h => absurd h (by decide), fun h => absurd h (by decide)⟩
theorem tf_3 : t_Fok (2, 25, 6, 1, 0, false) := ⟨(RX7, TX7, 2), rfl, by decide, rfl, rfl, Or.inr ⟨"TurnsHall", List.mem_append_right _ (List.mem_of_getElem? (i := 102) (by decide +kernel))⟩, fun _ => by decide +kernel, fun h => absurd h (by decide), fun h => absurd h (by decide), fun h => absurd h (by decide)⟩
theorem tf_4 : t_Fok (2, 44, 5, 3, 1, false) := ⟨(RX2, TX2, 6), rfl, by decide, rfl, rfl, Or.inl (List.mem_append_right _ (List.mem_of_getElem? (i := 125) (by decide +kernel))), fun h => absurd h (by decide), fun _ => by decide +kernel, fun h => absurd h (by decide), fun h => absurd h (by decide)⟩
theorem tf_5 : t_Fok (2, 48, 5, 5, 1, false) := ⟨(RX2, TX2, 6), rfl, by decide, rfl, rfl, Or.inl (List.mem_append_right _ (List.mem_of_getElem? (i := 129) (by decide +kernel))), fun h => absurd h (by decide), fun _ => by decide +kernel, fun h => absurd h (by decide), fun h => absurd h (by decide)⟩
theorem tf_6 : t_Fok (2, 51, 5, 4, 0, false) := ⟨(RX2, TX2, 6), rfl, by decide, rfl, rfl, Or.inl (List.mem_append_right _ (List.mem_of_getElem? (i := 127) (by decide +kernel))), fun _ => by decide +kernel, fun h => absurd h (by decide), fun h => absurd h (by decide), fun h => absurd h (by decide)⟩
theorem tf_7 : t_Fok (3, 9, 6, 1, 0, false) := ⟨(RX7, TX7, 2), rfl, by decide, rfl, rfl, Or.inr ⟨"TurnsHall", List.mem_append_right _ (List.mem_of_getElem? (i := 101) (by decide +kernel))⟩, fun _ => by decide +kernel, fun h => absurd h (by decide), fun h => absurd h (by decide), fun h => absurd h (by decide)⟩
theorem tf_8 : t_Fok (4, 9, 4, 0, 3, true) := ⟨(RX4, TX4, 4), rfl, by decide, rfl, rfl, Or.inl (List.mem_append_right _ (List.mem_of_getElem? (i := 84) (by decide +kernel))), fun h => absurd h (by decide), fun h => absurd h (by decide), fun h => absurd h (by decide), fun h => absurd h (by decide)⟩
theorem tf_9 : t_Fok (5, 9, 3, 0, 3, true) := ⟨(RX5, TX5, 2), rfl, by decide, rfl, rfl, Or.inl (List.mem_append_right _ (List.mem_of_getElem? (i := 71) (by decide +kernel))), fun h => absurd h (by decide), fun h => absurd h (by decide), fun h => absurd h (by decide), fun h => absurd h (by decide)⟩
theorem tf_10 : t_Fok (5, 27, 6, 1, 0, false) := ⟨(RX7, TX7, 2), rfl, by decide, rfl, rfl, Or.inr ⟨"TurnsHall", List.mem_append_right _ (List.mem_of_getElem? (i := 103) (by decide +kernel))⟩, fun _ => by decide +kernel, fun h => absurd h (by decide), fun h => absurd h (by decide), fun h => absurd h (by decide)⟩
theorem tf_11 : t_Fok (5, 33, 3, 1, 0, false) := ⟨(RX5, TX5, 2), rfl, by decide, rfl, rfl, Or.inl (List.mem_append_right _ (List.mem_of_getElem? (i := 72) (by decide +kernel))), fun _ => by decide +kernel, fun h => absurd h (by decide), fun h => absurd h (by decide), fun h => absurd h (by decide)⟩
theorem tf_12 : t_Fok (6, 9, 1, 0, 3, true) := ⟨(RX6, TX6, 3), rfl, by decide, rfl, rfl, Or.inl (List.mem_append_right _ (List.mem_of_getElem? (i := 33) (by decide +kernel))), fun h => absurd h (by decide), fun h => absurd h (by decide), fun h => absurd h (by decide), fun h => absurd h (by decide)⟩
theorem tf_13 : t_Fok (6, 15, 1, 1, 3, true) := ⟨(RX6, TX6, 3), rfl, by decide, rfl, rfl, Or.inl (List.mem_append_right _ (List.mem_of_getElem? (i := 34) (by decide +kernel))), fun h => absurd h (by decide), fun h => absurd h (by decide), fun h => absurd h (by decide), fun h => absurd h (by decide)⟩
theorem tf_14 : t_Fok (6, 18, 1, 2, 0, false) := ⟨(RX6, TX6, 3), rfl, by decide, rfl, rfl, Or.inl (List.mem_append_right _ (List.mem_of_getElem? (i := 35) (by decide +kernel))), fun _ => by decide +kernel, fun h => absurd h (by decide), fun h => absurd h (by decide), fun h => absurd h (by decide)⟩
theorem tf_15 : t_Fok (6, 49, 6, 1, 0, false) := ⟨(RX7, TX7, 2), rfl, by decide, rfl, rfl, Or.inr ⟨"TurnsHall", List.mem_append_right _ (List.mem_of_getElem? (i := 105) (by decide +kernel))⟩, fun _ => by decide +kernel, fun h => absurd h (by decide), fun h => absurd h (by decide), fun h => absurd h (by decide)⟩
theorem tf_16 : t_Fok (7, 9, 6, 0, 3, true) := ⟨(RX7, TX7, 2), rfl, by decide, rfl, rfl, Or.inl (List.mem_append_right _ (List.mem_of_getElem? (i := 100) (by decide +kernel))), fun h => absurd h (by decide), fun h => absurd h (by decide), fun h => absurd h (by decide), fun h => absurd h (by decide)⟩
theorem tf_17 : t_Fok (7, 29, 6, 1, 0, false) := ⟨(RX7, TX7, 2), rfl, by decide, rfl, rfl, Or.inl (List.mem_append_right _ (List.mem_of_getElem? (i := 104) (by decide +kernel))), fun _ => by decide +kernel, fun h => absurd h (by decide), fun h => absurd h (by decide), fun h => absurd h (by decide)⟩
theorem tf_18 : t_Fok (8, 9, 2, 0, 3, true) := ⟨(RX8, TX8, 4), rfl, by decide, rfl, rfl, Or.inl (List.mem_append_right _ (List.mem_of_getElem? (i := 51) (by decide +kernel))), fun h => absurd h (by decide), fun h => absurd h (by decide), fun h => absurd h (by decide), fun h => absurd h (by decide)⟩
theorem tf_19 : t_Fok (8, 15, 2, 1, 3, true) := ⟨(RX8, TX8, 4), rfl, by decide, rfl, rfl, Or.inl (List.mem_append_right _ (List.mem_of_getElem? (i := 52) (by decide +kernel))), fun h => absurd h (by decide), fun h => absurd h (by decide), fun h => absurd h (by decide), fun h => absurd h (by decide)⟩
theorem tf_20 : t_Fok (8, 18, 2, 2, 3, true) := ⟨(RX8, TX8, 4), rfl, by decide, rfl, rfl, Or.inl (List.mem_append_right _ (List.mem_of_getElem? (i := 53) (by decide +kernel))), fun h => absurd h (by decide), fun h => absurd h (by decide), fun h => absurd h (by decide), fun h => absurd h (by decide)⟩
theorem tf_21 : t_Fok (9, 10, 0, 0, 3, true) := ⟨(RX9, TX9, 7), rfl, by decide, rfl, rfl, Or.inl (List.mem_append_right _ (List.mem_of_getElem? (i := 144) (by decide +kernel))), fun h => absurd h (by decide), fun h => absurd h (by decide), fun h => absurd h (by decide), fun h => absurd h (by decide)⟩
theorem tf_22 : t_Fok (9, 19, 0, 1, 3, true) := ⟨(RX9, TX9, 7), rfl, by decide, rfl, rfl, Or.inl (List.mem_append_right _ (List.mem_of_getElem? (i := 145) (by decide +kernel))), fun h => absurd h (by decide), fun h => absurd h (by decide), fun h => absurd h (by decide), fun h => absurd h (by decide)⟩
theorem tf_23 : t_Fok (9, 25, 0, 2, 3, true) := ⟨(RX9, TX9, 7), rfl, by decide, rfl, rfl, Or.inl (List.mem_append_right _ (List.mem_of_getElem? (i := 146) (by decide +kernel))), fun h => absurd h (by decide), fun h => absurd h (by decide), fun h => absurd h (by decide), fun h => absurd h (by decide)⟩
theorem tf_24 : t_Fok (9, 32, 0, 4, 3, true) := ⟨(RX9, TX9, 7), rfl, by decide, rfl, rfl, Or.inl (List.mem_append_right _ (List.mem_of_getElem? (i := 148) (by decide +kernel))), fun h => absurd h (by decide), fun h => absurd h (by decide), fun h => absurd h (by decide), fun h => absurd h (by decide)⟩
theorem tf_25 : t_Fok (9, 39, 0, 5, 3, true) := ⟨(RX9, TX9, 7), rfl, by decide, rfl, rfl, Or.inl (List.mem_append_right _ (List.mem_of_getElem? (i := 149) (by decide +kernel))), fun h => absurd h (by decide), fun h => absurd h (by decide), fun h => absurd h (by decide), fun h => absurd h (by decide)⟩
theorem tf_26 : t_Fok (9, 46, 0, 6, 3, true) := ⟨(RX9, TX9, 7), rfl, by decide, rfl, rfl, Or.inl (List.mem_append_right _ (List.mem_of_getElem? (i := 150) (by decide +kernel))), fun h => absurd h (by decide), fun h => absurd h (by decide), fun h => absurd h (by decide), fun h => absurd h (by decide)⟩
theorem tf_27 : t_Fok (9, 71, 1, 2, 0, false) := ⟨(RX6, TX6, 3), rfl, by decide, rfl, rfl, Or.inr ⟨"TurnsHall", List.mem_append_right _ (List.mem_of_getElem? (i := 36) (by decide +kernel))⟩, fun _ => by decide +kernel, fun h => absurd h (by decide), fun h => absurd h (by decide), fun h => absurd h (by decide)⟩
theorem tf_28 : t_Fok (9, 98, 5, 0, 3, true) := ⟨(RX2, TX2, 6), rfl, by decide, rfl, rfl, Or.inr ⟨"TurnsHall", List.mem_append_right _ (List.mem_of_getElem? (i := 120) (by decide +kernel))⟩, fun h => absurd h (by decide), fun h => absurd h (by decide), fun h => absurd h (by decide), fun h => absurd h (by decide)⟩
theorem tf_29 : t_Fok (9, 135, 5, 3, 1, false) := ⟨(RX2, TX2, 6), rfl, by decide, rfl, rfl, Or.inr ⟨"TurnsHall", List.mem_append_right _ (List.mem_of_getElem? (i := 126) (by decide +kernel))⟩, fun h => absurd h (by decide), fun _ => by decide +kernel, fun h => absurd h (by decide), fun h => absurd h (by decide)⟩
theorem tf_30 : t_Fok (9, 139, 5, 5, 1, false) := ⟨(RX2, TX2, 6), rfl, by decide, rfl, rfl, Or.inr ⟨"TurnsHall", List.mem_append_right _ (List.mem_of_getElem? (i := 130) (by decide +kernel))⟩, fun h => absurd h (by decide), fun _ => by decide +kernel, fun h => absurd h (by decide), fun h => absurd h (by decide)⟩
theorem tf_31 : t_Fok (9, 147, 5, 1, 3, true) := ⟨(RX2, TX2, 6), rfl, by decide, rfl, rfl, Or.inr ⟨"TurnsHall", List.mem_append_right _ (List.mem_of_getElem? (i := 122) (by decide +kernel))⟩, fun h => absurd h (by decide), fun h => absurd h (by decide), fun h => absurd h (by decide), fun h => absurd h (by decide)⟩
theorem tf_32 : t_Fok (9, 156, 5, 2, 3, true) := ⟨(RX2, TX2, 6), rfl, by decide, rfl, rfl, Or.inr ⟨"TurnsHall", List.mem_append_right _ (List.mem_of_getElem? (i := 124) (by decide +kernel))⟩, fun h => absurd h (by decide), fun h => absurd h (by decide), fun h => absurd h (by decide), fun h => absurd h (by decide)⟩
theorem tf_33 : t_Fok (9, 163, 0, 3, 0, false) := ⟨(RX9, TX9, 7), rfl, by decide, rfl, rfl, Or.inl (List.mem_append_right _ (List.mem_of_getElem? (i := 147) (by decide +kernel))), fun _ => by decide +kernel, fun h => absurd h (by decide), fun h => absurd h (by decide), fun h => absurd h (by decide)⟩
theorem tf_34 : t_Fok (9, 174, 6, 1, 0, false) := ⟨(RX7, TX7, 2), rfl, by decide, rfl, rfl, Or.inr ⟨"TurnsHall", List.mem_append_right _ (List.mem_of_getElem? (i := 106) (by decide +kernel))⟩, fun _ => by decide +kernel, fun h => absurd h (by decide), fun h => absurd h (by decide), fun h => absurd h (by decide)⟩
theorem tf_35 : t_Fok (9, 267, 5, 4, 0, false) := ⟨(RX2, TX2, 6), rfl, by decide, rfl, rfl, Or.inr ⟨"TurnsHall", List.mem_append_right _ (List.mem_of_getElem? (i := 128) (by decide +kernel))⟩, fun _ => by decide +kernel, fun h => absurd h (by decide), fun h => absurd h (by decide), fun h => absurd h (by decide)⟩
set_option maxRecDepth 20000 in
theorem t_fok : ∀ f ∈ t_flt, t_Fok f := List.forall_mem_cons.mpr ⟨tf_0, List.forall_mem_cons.mpr ⟨tf_1, List.forall_mem_cons.mpr ⟨tf_2, List.forall_mem_cons.mpr ⟨tf_3, List.forall_mem_cons.mpr ⟨tf_4, List.forall_mem_cons.mpr ⟨tf_5, List.forall_mem_cons.mpr ⟨tf_6, List.forall_mem_cons.mpr ⟨tf_7, List.forall_mem_cons.mpr ⟨tf_8, List.forall_mem_cons.mpr ⟨tf_9, List.forall_mem_cons.mpr ⟨tf_10, List.forall_mem_cons.mpr ⟨tf_11, List.forall_mem_cons.mpr ⟨tf_12, List.forall_mem_cons.mpr ⟨tf_13, List.forall_mem_cons.mpr ⟨tf_14, List.forall_mem_cons.mpr ⟨tf_15, List.forall_mem_cons.mpr ⟨tf_16, List.forall_mem_cons.mpr ⟨tf_17, List.forall_mem_cons.mpr ⟨tf_18, List.forall_mem_cons.mpr ⟨tf_19, List.forall_mem_cons.mpr ⟨tf_20, List.forall_mem_cons.mpr ⟨tf_21, List.forall_mem_cons.mpr ⟨tf_22, List.forall_mem_cons.mpr ⟨tf_23, List.forall_mem_cons.mpr ⟨tf_24, List.forall_mem_cons.mpr ⟨tf_25, List.forall_mem_cons.mpr ⟨tf_26, List.forall_mem_cons.mpr ⟨tf_27, List.forall_mem_cons.mpr ⟨tf_28, List.forall_mem_cons.mpr ⟨tf_29, List.forall_mem_cons.mpr ⟨tf_30, List.forall_mem_cons.mpr ⟨tf_31, List.forall_mem_cons.mpr ⟨tf_32, List.forall_mem_cons.mpr ⟨tf_33, List.forall_mem_cons.mpr ⟨tf_34, List.forall_mem_cons.mpr ⟨tf_35, fun _ h => absurd h List.not_mem_nil⟩⟩⟩⟩⟩⟩⟩⟩⟩⟩⟩⟩⟩⟩⟩⟩⟩⟩⟩⟩⟩⟩⟩⟩⟩⟩⟩⟩⟩⟩⟩⟩⟩⟩⟩⟩
def t_Kok (f : Nat × Nat × Option Int32 × Option Int64) : Prop := (∀ v, f.2.2.1 = some v → Cond.constant (t_cn f.1) f.2.1 v ∈ lw_tbl) ∧ ∀ v, f.2.2.2 = some v → Cond.constantLong (t_cn f.1) f.2.1 v ∈ lw_tbl
theorem tk_0 : t_Kok (11, 265, some 1431655765, none) := ⟨fun _ h => by cases h; exact List.mem_append_right _ (List.mem_of_getElem? (i := 446) (by decide +kernel)), fun _ h => (nomatch h)⟩
theorem tk_1 : t_Kok (11, 266, some 858993459, none) := ⟨fun _ h => by cases h; exact List.mem_append_right _ (List.mem_of_getElem? (i := 447) (by decide +kernel)), fun _ h => (nomatch h)⟩
theorem tk_2 : t_Kok (11, 267, some 252645135, none) := ⟨fun _ h => by cases h; exact List.mem_append_right _ (List.mem_of_getElem? (i := 448) (by decide +kernel)), fun _ h => (nomatch h)⟩
theorem tk_3 : t_Kok (13, 7, some 1000308325, none) := ⟨fun _ h => by cases h; exact List.mem_append_right _ (List.mem_of_getElem? (i := 461) (by decide +kernel)), fun _ h => (nomatch h)⟩
theorem tk_4 : t_Kok (13, 8, some 751363499, none) := ⟨fun _ h => by cases h; exact List.mem_append_right _ (List.mem_of_getElem? (i := 462) (by decide +kernel)), fun _ h => (nomatch h)⟩
theorem tk_5 : t_Kok (13, 9, some 2147483647, none) := ⟨fun _ h => by cases h; exact List.mem_append_right _ (List.mem_of_getElem? (i := 466) (by decide +kernel)), fun _ h => (nomatch h)⟩
theorem t_kok : ∀ f ∈ t_kc, t_Kok f := List.forall_mem_cons.mpr ⟨tk_0, List.forall_mem_cons.mpr ⟨tk_1, List.forall_mem_cons.mpr ⟨tk_2, List.forall_mem_cons.mpr ⟨tk_3, List.forall_mem_cons.mpr ⟨tk_4, List.forall_mem_cons.mpr ⟨tk_5, fun _ h => absurd h List.not_mem_nil⟩⟩⟩⟩⟩⟩
def t_Mok (q : tM) : Prop := (tm_hh q = [] → Cond.code (tm_y q) (tm_by q) (tm_ml q) (tm_rt q) ∈ lw_tbl) ∧ (tm_hh q ≠ [] → Cond.codeWith (tm_y q) (tm_by q) (tm_ml q) (tm_rt q) (tm_hh q) ∈ lw_tbl ∧ tm_st q = true) ∧ Cond.initialized (tm_y q).cls ∈ lw_tbl ∧
  ((tm_y q).cls ≠ "java/lang/invoke/MethodHandle" ∧ (tm_y q).cls ≠ "java/lang/invoke/VarHandle") ∧ plainName (tm_y q).cls = true ∧ (parseMethodDescriptor (tm_y q).desc).map (fun d => d.parameters.length + if tm_st q = true then 0 else 1) = some (tm_na q) ∧ (tm_y q).cls = t_cn (tm_oc q) ∧
  (∀ cj, t_oci (tm_oc q) = some cj → ∃ T N, t_cls[cj]? = some ((tm_y q).cls, T, N)) ∧ (tm_st q = false → Cond.instanceMethod (tm_y q) ∈ lw_tbl ∧ Cond.selects (tm_y q).cls (tm_y q) (tm_y q) ∈ lw_tbl) ∧ tm_ml q ≤ 21 ∧ (tm_st q = true → Cond.static (tm_y q) ∈ lw_tbl)
theorem tmk_0 : t_Mok tq_0 := ⟨fun _ => List.mem_append_right _ (List.mem_of_getElem? (i := 276) (by decide +kernel)), fun h => absurd rfl h, List.mem_append_right _ (List.mem_of_getElem? (i := 13) (by decide +kernel)), ⟨by decide +kernel, by decide +kernel⟩, by decide +kernel, by decide +kernel, rfl, fun _ h => (nomatch h), fun h => (nomatch h), by decide, fun _ => List.mem_append_right _ (List.mem_of_getElem? (i := 275) (by decide +kernel))⟩
theorem tmk_1 : t_Mok tq_1 := ⟨fun _ => List.mem_append_right _ (List.mem_of_getElem? (i := 445) (by decide +kernel)), fun h => absurd rfl h, List.mem_append_right _ (List.mem_of_getElem? (i := 13) (by decide +kernel)), ⟨by decide +kernel, by decide +kernel⟩, by decide +kernel, by decide +kernel, rfl, fun _ h => (nomatch h), fun h => (nomatch h), by decide, fun _ => List.mem_append_right _ (List.mem_of_getElem? (i := 444) (by decide +kernel))⟩
theorem tmk_2 : t_Mok tq_2 := ⟨fun _ => List.mem_append_right _ (List.mem_of_getElem? (i := 561) (by decide +kernel)), fun h => absurd rfl h, List.mem_append_right _ (List.mem_of_getElem? (i := 16) (by decide +kernel)), ⟨by decide +kernel, by decide +kernel⟩, by decide +kernel, by decide +kernel, rfl, fun _ h => (nomatch h), fun h => (nomatch h), by decide, fun _ => List.mem_append_right _ (List.mem_of_getElem? (i := 560) (by decide +kernel))⟩
theorem tmk_3 : t_Mok tq_3 := ⟨fun _ => List.mem_append_right _ (List.mem_of_getElem? (i := 555) (by decide +kernel)), fun h => absurd rfl h, List.mem_append_right _ (List.mem_of_getElem? (i := 16) (by decide +kernel)), ⟨by decide +kernel, by decide +kernel⟩, by decide +kernel, by decide +kernel, rfl, fun _ h => (nomatch h), fun h => (nomatch h), by decide, fun _ => List.mem_append_right _ (List.mem_of_getElem? (i := 554) (by decide +kernel))⟩
theorem tmk_4 : t_Mok tq_4 := ⟨fun _ => List.mem_append_right _ (List.mem_of_getElem? (i := 564) (by decide +kernel)), fun h => absurd rfl h, List.mem_append_right _ (List.mem_of_getElem? (i := 16) (by decide +kernel)), ⟨by decide +kernel, by decide +kernel⟩, by decide +kernel, by decide +kernel, rfl, fun _ h => (nomatch h), fun h => (nomatch h), by decide, fun _ => List.mem_append_right _ (List.mem_of_getElem? (i := 563) (by decide +kernel))⟩
theorem tmk_5 : t_Mok tq_5 := ⟨fun _ => List.mem_append_right _ (List.mem_of_getElem? (i := 575) (by decide +kernel)), fun h => absurd rfl h, List.mem_append_right _ (List.mem_of_getElem? (i := 16) (by decide +kernel)), ⟨by decide +kernel, by decide +kernel⟩, by decide +kernel, by decide +kernel, rfl, fun _ h => (nomatch h), fun h => (nomatch h), by decide, fun _ => List.mem_append_right _ (List.mem_of_getElem? (i := 574) (by decide +kernel))⟩
theorem tmk_6 : t_Mok tq_6 := ⟨fun _ => List.mem_append_right _ (List.mem_of_getElem? (i := 265) (by decide +kernel)), fun h => absurd rfl h, List.mem_append_right _ (List.mem_of_getElem? (i := 12) (by decide +kernel)), ⟨by decide +kernel, by decide +kernel⟩, by decide +kernel, by decide +kernel, rfl, fun _ h => (nomatch h), fun h => (nomatch h), by decide, fun _ => List.mem_append_right _ (List.mem_of_getElem? (i := 264) (by decide +kernel))⟩
theorem tmk_7 : t_Mok tq_7 := ⟨fun _ => List.mem_append_right _ (List.mem_of_getElem? (i := 286) (by decide +kernel)), fun h => absurd rfl h, List.mem_append_right _ (List.mem_of_getElem? (i := 12) (by decide +kernel)), ⟨by decide +kernel, by decide +kernel⟩, by decide +kernel, by decide +kernel, rfl, fun _ h => (nomatch h), fun h => (nomatch h), by decide, fun _ => List.mem_append_right _ (List.mem_of_getElem? (i := 285) (by decide +kernel))⟩
theorem tmk_8 : t_Mok tq_8 := ⟨fun _ => List.mem_append_right _ (List.mem_of_getElem? (i := 379) (by decide +kernel)), fun h => absurd rfl h, List.mem_append_right _ (List.mem_of_getElem? (i := 12) (by decide +kernel)), ⟨by decide +kernel, by decide +kernel⟩, by decide +kernel, by decide +kernel, rfl, fun _ h => (nomatch h), fun h => (nomatch h), by decide, fun _ => List.mem_append_right _ (List.mem_of_getElem? (i := 378) (by decide +kernel))⟩
theorem tmk_9 : t_Mok tq_9 := ⟨fun _ => List.mem_append_right _ (List.mem_of_getElem? (i := 290) (by decide +kernel)), fun h => absurd rfl h, List.mem_append_right _ (List.mem_of_getElem? (i := 7) (by decide +kernel)), ⟨by decide +kernel, by decide +kernel⟩, by decide +kernel, by decide +kernel, rfl, fun cj h => by cases h; exact ⟨TX2, 6, rfl⟩, fun _ => ⟨List.mem_append_right _ (List.mem_of_getElem? (i := 289) (by decide +kernel)), List.mem_append_left _ (List.mem_of_getElem? (i := 9) (by decide +kernel))⟩, by decide, fun h => (nomatch h)⟩
theorem tmk_10 : t_Mok tq_10 := ⟨fun _ => List.mem_append_right _ (List.mem_of_getElem? (i := 456) (by decide +kernel)), fun h => absurd rfl h, List.mem_append_right _ (List.mem_of_getElem? (i := 7) (by decide +kernel)), ⟨by decide +kernel, by decide +kernel⟩, by decide +kernel, by decide +kernel, rfl, fun cj h => by cases h; exact ⟨TX2, 6, rfl⟩, fun _ => ⟨List.mem_append_right _ (List.mem_of_getElem? (i := 455) (by decide +kernel)), List.mem_append_left _ (List.mem_of_getElem? (i := 24) (by decide +kernel))⟩, by decide, fun h => (nomatch h)⟩
theorem tmk_11 : t_Mok tq_11 := ⟨fun _ => List.mem_append_right _ (List.mem_of_getElem? (i := 497) (by decide +kernel)), fun h => absurd rfl h, List.mem_append_right _ (List.mem_of_getElem? (i := 7) (by decide +kernel)), ⟨by decide +kernel, by decide +kernel⟩, by decide +kernel, by decide +kernel, rfl, fun cj h => by cases h; exact ⟨TX2, 6, rfl⟩, fun _ => ⟨List.mem_append_right _ (List.mem_of_getElem? (i := 496) (by decide +kernel)), List.mem_append_left _ (List.mem_of_getElem? (i := 27) (by decide +kernel))⟩, by decide, fun h => (nomatch h)⟩
theorem tmk_12 : t_Mok tq_12 := ⟨fun _ => List.mem_append_right _ (List.mem_of_getElem? (i := 568) (by decide +kernel)), fun h => absurd rfl h, List.mem_append_right _ (List.mem_of_getElem? (i := 17) (by decide +kernel)), ⟨by decide +kernel, by decide +kernel⟩, by decide +kernel, by decide +kernel, rfl, fun _ h => (nomatch h), fun h => (nomatch h), by decide, fun _ => List.mem_append_right _ (List.mem_of_getElem? (i := 567) (by decide +kernel))⟩
theorem tmk_13 : t_Mok tq_13 := ⟨fun _ => List.mem_append_right _ (List.mem_of_getElem? (i := 571) (by decide +kernel)), fun h => absurd rfl h, List.mem_append_right _ (List.mem_of_getElem? (i := 17) (by decide +kernel)), ⟨by decide +kernel, by decide +kernel⟩, by decide +kernel, by decide +kernel, rfl, fun _ h => (nomatch h), fun h => (nomatch h), by decide, fun _ => List.mem_append_right _ (List.mem_of_getElem? (i := 570) (by decide +kernel))⟩
theorem tmk_14 : t_Mok tq_14 := ⟨fun _ => List.mem_append_right _ (List.mem_of_getElem? (i := 558) (by decide +kernel)), fun h => absurd rfl h, List.mem_append_right _ (List.mem_of_getElem? (i := 17) (by decide +kernel)), ⟨by decide +kernel, by decide +kernel⟩, by decide +kernel, by decide +kernel, rfl, fun _ h => (nomatch h), fun h => (nomatch h), by decide, fun _ => List.mem_append_right _ (List.mem_of_getElem? (i := 557) (by decide +kernel))⟩
theorem tmk_21 : t_Mok tq_21 := ⟨fun _ => List.mem_append_right _ (List.mem_of_getElem? (i := 423) (by decide +kernel)), fun h => absurd rfl h, List.mem_append_right _ (List.mem_of_getElem? (i := 4) (by decide +kernel)), ⟨by decide +kernel, by decide +kernel⟩, by decide +kernel, by decide +kernel, rfl, fun cj h => by cases h; exact ⟨TX5, 2, rfl⟩, fun h => (nomatch h), by decide, fun _ => List.mem_append_right _ (List.mem_of_getElem? (i := 422) (by decide +kernel))⟩
theorem tmk_22 : t_Mok tq_22 := ⟨fun _ => List.mem_append_right _ (List.mem_of_getElem? (i := 433) (by decide +kernel)), fun h => absurd rfl h, List.mem_append_right _ (List.mem_of_getElem? (i := 4) (by decide +kernel)), ⟨by decide +kernel, by decide +kernel⟩, by decide +kernel, by decide +kernel, rfl, fun cj h => by cases h; exact ⟨TX5, 2, rfl⟩, fun h => (nomatch h), by decide, fun _ => List.mem_append_right _ (List.mem_of_getElem? (i := 432) (by decide +kernel))⟩
theorem tmk_23 : t_Mok tq_23 := ⟨fun _ => List.mem_append_right _ (List.mem_of_getElem? (i := 412) (by decide +kernel)), fun h => absurd rfl h, List.mem_append_right _ (List.mem_of_getElem? (i := 4) (by decide +kernel)), ⟨by decide +kernel, by decide +kernel⟩, by decide +kernel, by decide +kernel, rfl, fun cj h => by cases h; exact ⟨TX5, 2, rfl⟩, fun _ => ⟨List.mem_append_right _ (List.mem_of_getElem? (i := 411) (by decide +kernel)), List.mem_append_left _ (List.mem_of_getElem? (i := 19) (by decide +kernel))⟩, by decide, fun h => (nomatch h)⟩
theorem tmk_24 : t_Mok tq_24 := ⟨fun _ => List.mem_append_right _ (List.mem_of_getElem? (i := 416) (by decide +kernel)), fun h => absurd rfl h, List.mem_append_right _ (List.mem_of_getElem? (i := 4) (by decide +kernel)), ⟨by decide +kernel, by decide +kernel⟩, by decide +kernel, by decide +kernel, rfl, fun cj h => by cases h; exact ⟨TX5, 2, rfl⟩, fun _ => ⟨List.mem_append_right _ (List.mem_of_getElem? (i := 415) (by decide +kernel)), List.mem_append_left _ (List.mem_of_getElem? (i := 20) (by decide +kernel))⟩, by decide, fun h => (nomatch h)⟩
theorem tmk_25 : t_Mok tq_25 := ⟨fun _ => List.mem_append_right _ (List.mem_of_getElem? (i := 442) (by decide +kernel)), fun h => absurd rfl h, List.mem_append_right _ (List.mem_of_getElem? (i := 4) (by decide +kernel)), ⟨by decide +kernel, by decide +kernel⟩, by decide +kernel, by decide +kernel, rfl, fun cj h => by cases h; exact ⟨TX5, 2, rfl⟩, fun _ => ⟨List.mem_append_right _ (List.mem_of_getElem? (i := 441) (by decide +kernel)), List.mem_append_left _ (List.mem_of_getElem? (i := 23) (by decide +kernel))⟩, by decide, fun h => (nomatch h)⟩
theorem tmk_26 : t_Mok tq_26 := ⟨fun _ => List.mem_append_right _ (List.mem_of_getElem? (i := 609) (by decide +kernel)), fun h => absurd rfl h, List.mem_append_right _ (List.mem_of_getElem? (i := 4) (by decide +kernel)), ⟨by decide +kernel, by decide +kernel⟩, by decide +kernel, by decide +kernel, rfl, fun cj h => by cases h; exact ⟨TX5, 2, rfl⟩, fun _ => ⟨List.mem_append_right _ (List.mem_of_getElem? (i := 608) (by decide +kernel)), List.mem_append_left _ (List.mem_of_getElem? (i := 31) (by decide +kernel))⟩, by decide, fun h => (nomatch h)⟩
theorem tmk_27 : t_Mok tq_27 := ⟨fun _ => List.mem_append_right _ (List.mem_of_getElem? (i := 597) (by decide +kernel)), fun h => absurd rfl h, List.mem_append_right _ (List.mem_of_getElem? (i := 4) (by decide +kernel)), ⟨by decide +kernel, by decide +kernel⟩, by decide +kernel, by decide +kernel, rfl, fun cj h => by cases h; exact ⟨TX5, 2, rfl⟩, fun h => (nomatch h), by decide, fun _ => List.mem_append_right _ (List.mem_of_getElem? (i := 596) (by decide +kernel))⟩
theorem tmk_29 : t_Mok tq_29 := ⟨fun _ => List.mem_append_right _ (List.mem_of_getElem? (i := 438) (by decide +kernel)), fun h => absurd rfl h, List.mem_append_right _ (List.mem_of_getElem? (i := 4) (by decide +kernel)), ⟨by decide +kernel, by decide +kernel⟩, by decide +kernel, by decide +kernel, rfl, fun cj h => by cases h; exact ⟨TX5, 2, rfl⟩, fun _ => ⟨List.mem_append_right _ (List.mem_of_getElem? (i := 437) (by decide +kernel)), List.mem_append_left _ (List.mem_of_getElem? (i := 22) (by decide +kernel))⟩, by decide, fun h => (nomatch h)⟩
theorem tmk_31 : t_Mok tq_31 := ⟨fun _ => List.mem_append_right _ (List.mem_of_getElem? (i := 479) (by decide +kernel)), fun h => absurd rfl h, List.mem_append_right _ (List.mem_of_getElem? (i := 2) (by decide +kernel)), ⟨by decide +kernel, by decide +kernel⟩, by decide +kernel, by decide +kernel, rfl, fun cj h => by cases h; exact ⟨TX6, 3, rfl⟩, fun _ => ⟨List.mem_append_right _ (List.mem_of_getElem? (i := 478) (by decide +kernel)), List.mem_append_left _ (List.mem_of_getElem? (i := 25) (by decide +kernel))⟩, by decide, fun h => (nomatch h)⟩
theorem tmk_32 : t_Mok tq_32 := ⟨fun _ => List.mem_append_right _ (List.mem_of_getElem? (i := 484) (by decide +kernel)), fun h => absurd rfl h, List.mem_append_right _ (List.mem_of_getElem? (i := 2) (by decide +kernel)), ⟨by decide +kernel, by decide +kernel⟩, by decide +kernel, by decide +kernel, rfl, fun cj h => by cases h; exact ⟨TX6, 3, rfl⟩, fun _ => ⟨List.mem_append_right _ (List.mem_of_getElem? (i := 483) (by decide +kernel)), List.mem_append_left _ (List.mem_of_getElem? (i := 26) (by decide +kernel))⟩, by decide, fun h => (nomatch h)⟩
theorem tmk_33 : t_Mok tq_33 := ⟨fun _ => List.mem_append_right _ (List.mem_of_getElem? (i := 262) (by decide +kernel)), fun h => absurd rfl h, List.mem_append_right _ (List.mem_of_getElem? (i := 2) (by decide +kernel)), ⟨by decide +kernel, by decide +kernel⟩, by decide +kernel, by decide +kernel, rfl, fun cj h => by cases h; exact ⟨TX6, 3, rfl⟩, fun _ => ⟨List.mem_append_right _ (List.mem_of_getElem? (i := 261) (by decide +kernel)), List.mem_append_left _ (List.mem_of_getElem? (i := 5) (by decide +kernel))⟩, by decide, fun h => (nomatch h)⟩
theorem tmk_34 : t_Mok tq_34 := ⟨fun _ => List.mem_append_right _ (List.mem_of_getElem? (i := 269) (by decide +kernel)), fun h => absurd rfl h, List.mem_append_right _ (List.mem_of_getElem? (i := 2) (by decide +kernel)), ⟨by decide +kernel, by decide +kernel⟩, by decide +kernel, by decide +kernel, rfl, fun cj h => by cases h; exact ⟨TX6, 3, rfl⟩, fun _ => ⟨List.mem_append_right _ (List.mem_of_getElem? (i := 268) (by decide +kernel)), List.mem_append_left _ (List.mem_of_getElem? (i := 6) (by decide +kernel))⟩, by decide, fun h => (nomatch h)⟩
theorem tmk_35 : t_Mok tq_35 := ⟨fun _ => List.mem_append_right _ (List.mem_of_getElem? (i := 273) (by decide +kernel)), fun h => absurd rfl h, List.mem_append_right _ (List.mem_of_getElem? (i := 2) (by decide +kernel)), ⟨by decide +kernel, by decide +kernel⟩, by decide +kernel, by decide +kernel, rfl, fun cj h => by cases h; exact ⟨TX6, 3, rfl⟩, fun _ => ⟨List.mem_append_right _ (List.mem_of_getElem? (i := 272) (by decide +kernel)), List.mem_append_left _ (List.mem_of_getElem? (i := 7) (by decide +kernel))⟩, by decide, fun h => (nomatch h)⟩
theorem tmk_36 : t_Mok tq_36 := ⟨fun _ => List.mem_append_right _ (List.mem_of_getElem? (i := 258) (by decide +kernel)), fun h => absurd rfl h, List.mem_append_right _ (List.mem_of_getElem? (i := 2) (by decide +kernel)), ⟨by decide +kernel, by decide +kernel⟩, by decide +kernel, by decide +kernel, rfl, fun cj h => by cases h; exact ⟨TX6, 3, rfl⟩, fun _ => ⟨List.mem_append_right _ (List.mem_of_getElem? (i := 257) (by decide +kernel)), List.mem_append_left _ (List.mem_of_getElem? (i := 4) (by decide +kernel))⟩, by decide, fun h => (nomatch h)⟩
theorem tmk_37 : t_Mok tq_37 := ⟨fun _ => List.mem_append_right _ (List.mem_of_getElem? (i := 254) (by decide +kernel)), fun h => absurd rfl h, List.mem_append_right _ (List.mem_of_getElem? (i := 2) (by decide +kernel)), ⟨by decide +kernel, by decide +kernel⟩, by decide +kernel, by decide +kernel, rfl, fun cj h => by cases h; exact ⟨TX6, 3, rfl⟩, fun _ => ⟨List.mem_append_right _ (List.mem_of_getElem? (i := 253) (by decide +kernel)), List.mem_append_left _ (List.mem_of_getElem? (i := 3) (by decide +kernel))⟩, by decide, fun h => (nomatch h)⟩
theorem tmk_39 : t_Mok tq_39 := ⟨fun _ => List.mem_append_right _ (List.mem_of_getElem? (i := 349) (by decide +kernel)), fun h => absurd rfl h, List.mem_append_right _ (List.mem_of_getElem? (i := 6) (by decide +kernel)), ⟨by decide +kernel, by decide +kernel⟩, by decide +kernel, by decide +kernel, rfl, fun cj h => by cases h; exact ⟨TX7, 2, rfl⟩, fun _ => ⟨List.mem_append_right _ (List.mem_of_getElem? (i := 348) (by decide +kernel)), List.mem_append_left _ (List.mem_of_getElem? (i := 13) (by decide +kernel))⟩, by decide, fun h => (nomatch h)⟩
theorem tmk_40 : t_Mok tq_40 := ⟨fun _ => List.mem_append_right _ (List.mem_of_getElem? (i := 283) (by decide +kernel)), fun h => absurd rfl h, List.mem_append_right _ (List.mem_of_getElem? (i := 6) (by decide +kernel)), ⟨by decide +kernel, by decide +kernel⟩, by decide +kernel, by decide +kernel, rfl, fun cj h => by cases h; exact ⟨TX7, 2, rfl⟩, fun h => (nomatch h), by decide, fun _ => List.mem_append_right _ (List.mem_of_getElem? (i := 282) (by decide +kernel))⟩
theorem tmk_41 : t_Mok tq_41 := ⟨fun _ => List.mem_append_right _ (List.mem_of_getElem? (i := 280) (by decide +kernel)), fun h => absurd rfl h, List.mem_append_right _ (List.mem_of_getElem? (i := 6) (by decide +kernel)), ⟨by decide +kernel, by decide +kernel⟩, by decide +kernel, by decide +kernel, rfl, fun cj h => by cases h; exact ⟨TX7, 2, rfl⟩, fun _ => ⟨List.mem_append_right _ (List.mem_of_getElem? (i := 279) (by decide +kernel)), List.mem_append_left _ (List.mem_of_getElem? (i := 8) (by decide +kernel))⟩, by decide, fun h => (nomatch h)⟩
theorem tmk_42 : t_Mok tq_42 := ⟨fun _ => List.mem_append_right _ (List.mem_of_getElem? (i := 523) (by decide +kernel)), fun h => absurd rfl h, List.mem_append_right _ (List.mem_of_getElem? (i := 6) (by decide +kernel)), ⟨by decide +kernel, by decide +kernel⟩, by decide +kernel, by decide +kernel, rfl, fun cj h => by cases h; exact ⟨TX7, 2, rfl⟩, fun _ => ⟨List.mem_append_right _ (List.mem_of_getElem? (i := 522) (by decide +kernel)), List.mem_append_left _ (List.mem_of_getElem? (i := 30) (by decide +kernel))⟩, by decide, fun h => (nomatch h)⟩
theorem tmk_44 : t_Mok tq_44 := ⟨fun _ => List.mem_append_right _ (List.mem_of_getElem? (i := 376) (by decide +kernel)), fun h => absurd rfl h, List.mem_append_right _ (List.mem_of_getElem? (i := 6) (by decide +kernel)), ⟨by decide +kernel, by decide +kernel⟩, by decide +kernel, by decide +kernel, rfl, fun cj h => by cases h; exact ⟨TX7, 2, rfl⟩, fun _ => ⟨List.mem_append_right _ (List.mem_of_getElem? (i := 375) (by decide +kernel)), List.mem_append_left _ (List.mem_of_getElem? (i := 18) (by decide +kernel))⟩, by decide, fun h => (nomatch h)⟩
theorem tmk_45 : t_Mok tq_45 := ⟨fun _ => List.mem_append_right _ (List.mem_of_getElem? (i := 345) (by decide +kernel)), fun h => absurd rfl h, List.mem_append_right _ (List.mem_of_getElem? (i := 6) (by decide +kernel)), ⟨by decide +kernel, by decide +kernel⟩, by decide +kernel, by decide +kernel, rfl, fun cj h => by cases h; exact ⟨TX7, 2, rfl⟩, fun _ => ⟨List.mem_append_right _ (List.mem_of_getElem? (i := 344) (by decide +kernel)), List.mem_append_left _ (List.mem_of_getElem? (i := 12) (by decide +kernel))⟩, by decide, fun h => (nomatch h)⟩
theorem tmk_46 : t_Mok tq_46 := ⟨fun _ => List.mem_append_right _ (List.mem_of_getElem? (i := 355) (by decide +kernel)), fun h => absurd rfl h, List.mem_append_right _ (List.mem_of_getElem? (i := 6) (by decide +kernel)), ⟨by decide +kernel, by decide +kernel⟩, by decide +kernel, by decide +kernel, rfl, fun cj h => by cases h; exact ⟨TX7, 2, rfl⟩, fun _ => ⟨List.mem_append_right _ (List.mem_of_getElem? (i := 354) (by decide +kernel)), List.mem_append_left _ (List.mem_of_getElem? (i := 14) (by decide +kernel))⟩, by decide, fun h => (nomatch h)⟩
theorem tmk_47 : t_Mok tq_47 := ⟨fun _ => List.mem_append_right _ (List.mem_of_getElem? (i := 359) (by decide +kernel)), fun h => absurd rfl h, List.mem_append_right _ (List.mem_of_getElem? (i := 6) (by decide +kernel)), ⟨by decide +kernel, by decide +kernel⟩, by decide +kernel, by decide +kernel, rfl, fun cj h => by cases h; exact ⟨TX7, 2, rfl⟩, fun _ => ⟨List.mem_append_right _ (List.mem_of_getElem? (i := 358) (by decide +kernel)), List.mem_append_left _ (List.mem_of_getElem? (i := 15) (by decide +kernel))⟩, by decide, fun h => (nomatch h)⟩
theorem tmk_48 : t_Mok tq_48 := ⟨fun _ => List.mem_append_right _ (List.mem_of_getElem? (i := 363) (by decide +kernel)), fun h => absurd rfl h, List.mem_append_right _ (List.mem_of_getElem? (i := 6) (by decide +kernel)), ⟨by decide +kernel, by decide +kernel⟩, by decide +kernel, by decide +kernel, rfl, fun cj h => by cases h; exact ⟨TX7, 2, rfl⟩, fun _ => ⟨List.mem_append_right _ (List.mem_of_getElem? (i := 362) (by decide +kernel)), List.mem_append_left _ (List.mem_of_getElem? (i := 16) (by decide +kernel))⟩, by decide, fun h => (nomatch h)⟩
theorem tmk_49 : t_Mok tq_49 := ⟨fun _ => List.mem_append_right _ (List.mem_of_getElem? (i := 367) (by decide +kernel)), fun h => absurd rfl h, List.mem_append_right _ (List.mem_of_getElem? (i := 6) (by decide +kernel)), ⟨by decide +kernel, by decide +kernel⟩, by decide +kernel, by decide +kernel, rfl, fun cj h => by cases h; exact ⟨TX7, 2, rfl⟩, fun _ => ⟨List.mem_append_right _ (List.mem_of_getElem? (i := 366) (by decide +kernel)), List.mem_append_left _ (List.mem_of_getElem? (i := 17) (by decide +kernel))⟩, by decide, fun h => (nomatch h)⟩
theorem tmk_51 : t_Mok tq_51 := ⟨fun _ => List.mem_append_right _ (List.mem_of_getElem? (i := 420) (by decide +kernel)), fun h => absurd rfl h, List.mem_append_right _ (List.mem_of_getElem? (i := 6) (by decide +kernel)), ⟨by decide +kernel, by decide +kernel⟩, by decide +kernel, by decide +kernel, rfl, fun cj h => by cases h; exact ⟨TX7, 2, rfl⟩, fun _ => ⟨List.mem_append_right _ (List.mem_of_getElem? (i := 419) (by decide +kernel)), List.mem_append_left _ (List.mem_of_getElem? (i := 21) (by decide +kernel))⟩, by decide, fun h => (nomatch h)⟩
theorem tmk_52 : t_Mok tq_52 := ⟨fun _ => List.mem_append_right _ (List.mem_of_getElem? (i := 503) (by decide +kernel)), fun h => absurd rfl h, List.mem_append_right _ (List.mem_of_getElem? (i := 6) (by decide +kernel)), ⟨by decide +kernel, by decide +kernel⟩, by decide +kernel, by decide +kernel, rfl, fun cj h => by cases h; exact ⟨TX7, 2, rfl⟩, fun _ => ⟨List.mem_append_right _ (List.mem_of_getElem? (i := 502) (by decide +kernel)), List.mem_append_left _ (List.mem_of_getElem? (i := 28) (by decide +kernel))⟩, by decide, fun h => (nomatch h)⟩
theorem tmk_53 : t_Mok tq_53 := ⟨fun _ => List.mem_append_right _ (List.mem_of_getElem? (i := 507) (by decide +kernel)), fun h => absurd rfl h, List.mem_append_right _ (List.mem_of_getElem? (i := 6) (by decide +kernel)), ⟨by decide +kernel, by decide +kernel⟩, by decide +kernel, by decide +kernel, rfl, fun cj h => by cases h; exact ⟨TX7, 2, rfl⟩, fun _ => ⟨List.mem_append_right _ (List.mem_of_getElem? (i := 506) (by decide +kernel)), List.mem_append_left _ (List.mem_of_getElem? (i := 29) (by decide +kernel))⟩, by decide, fun h => (nomatch h)⟩
theorem tmk_54 : t_Mok tq_54 := ⟨fun _ => List.mem_append_right _ (List.mem_of_getElem? (i := 629) (by decide +kernel)), fun h => absurd rfl h, List.mem_append_right _ (List.mem_of_getElem? (i := 6) (by decide +kernel)), ⟨by decide +kernel, by decide +kernel⟩, by decide +kernel, by decide +kernel, rfl, fun cj h => by cases h; exact ⟨TX7, 2, rfl⟩, fun _ => ⟨List.mem_append_right _ (List.mem_of_getElem? (i := 628) (by decide +kernel)), List.mem_append_left _ (List.mem_of_getElem? (i := 32) (by decide +kernel))⟩, by decide, fun h => (nomatch h)⟩
theorem tmk_62 : t_Mok tq_62 := ⟨fun _ => List.mem_append_right _ (List.mem_of_getElem? (i := 474) (by decide +kernel)), fun h => absurd rfl h, List.mem_append_right _ (List.mem_of_getElem? (i := 1) (by decide +kernel)), ⟨by decide +kernel, by decide +kernel⟩, by decide +kernel, by decide +kernel, rfl, fun cj h => by cases h; exact ⟨TX9, 7, rfl⟩, fun _ => ⟨List.mem_append_right _ (List.mem_of_getElem? (i := 472) (by decide +kernel)), List.mem_append_right _ (List.mem_of_getElem? (i := 473) (by decide +kernel))⟩, by decide, fun h => (nomatch h)⟩
theorem tmk_63 : t_Mok tq_63 := ⟨fun _ => List.mem_append_right _ (List.mem_of_getElem? (i := 169) (by decide +kernel)), fun h => absurd rfl h, List.mem_append_right _ (List.mem_of_getElem? (i := 1) (by decide +kernel)), ⟨by decide +kernel, by decide +kernel⟩, by decide +kernel, by decide +kernel, rfl, fun cj h => by cases h; exact ⟨TX9, 7, rfl⟩, fun _ => ⟨List.mem_append_right _ (List.mem_of_getElem? (i := 167) (by decide +kernel)), List.mem_append_right _ (List.mem_of_getElem? (i := 168) (by decide +kernel))⟩, by decide, fun h => (nomatch h)⟩
theorem tmk_68 : t_Mok tq_68 := ⟨fun _ => List.mem_append_right _ (List.mem_of_getElem? (i := 173) (by decide +kernel)), fun h => absurd rfl h, List.mem_append_right _ (List.mem_of_getElem? (i := 1) (by decide +kernel)), ⟨by decide +kernel, by decide +kernel⟩, by decide +kernel, by decide +kernel, rfl, fun cj h => by cases h; exact ⟨TX9, 7, rfl⟩, fun _ => ⟨List.mem_append_right _ (List.mem_of_getElem? (i := 171) (by decide +kernel)), List.mem_append_right _ (List.mem_of_getElem? (i := 172) (by decide +kernel))⟩, by decide, fun h => (nomatch h)⟩
theorem tmk_70 : t_Mok tq_70 := ⟨fun _ => List.mem_append_right _ (List.mem_of_getElem? (i := 519) (by decide +kernel)), fun h => absurd rfl h, List.mem_append_right _ (List.mem_of_getElem? (i := 1) (by decide +kernel)), ⟨by decide +kernel, by decide +kernel⟩, by decide +kernel, by decide +kernel, rfl, fun cj h => by cases h; exact ⟨TX9, 7, rfl⟩, fun _ => ⟨List.mem_append_right _ (List.mem_of_getElem? (i := 517) (by decide +kernel)), List.mem_append_right _ (List.mem_of_getElem? (i := 518) (by decide +kernel))⟩, by decide, fun h => (nomatch h)⟩
theorem tmk_71 : t_Mok tq_71 := ⟨fun _ => List.mem_append_right _ (List.mem_of_getElem? (i := 301) (by decide +kernel)), fun h => absurd rfl h, List.mem_append_right _ (List.mem_of_getElem? (i := 1) (by decide +kernel)), ⟨by decide +kernel, by decide +kernel⟩, by decide +kernel, by decide +kernel, rfl, fun cj h => by cases h; exact ⟨TX9, 7, rfl⟩, fun _ => ⟨List.mem_append_right _ (List.mem_of_getElem? (i := 299) (by decide +kernel)), List.mem_append_right _ (List.mem_of_getElem? (i := 300) (by decide +kernel))⟩, by decide, fun h => (nomatch h)⟩
theorem tmk_72 : t_Mok tq_72 := ⟨fun _ => List.mem_append_right _ (List.mem_of_getElem? (i := 371) (by decide +kernel)), fun h => absurd rfl h, List.mem_append_right _ (List.mem_of_getElem? (i := 1) (by decide +kernel)), ⟨by decide +kernel, by decide +kernel⟩, by decide +kernel, by decide +kernel, rfl, fun cj h => by cases h; exact ⟨TX9, 7, rfl⟩, fun _ => ⟨List.mem_append_right _ (List.mem_of_getElem? (i := 369) (by decide +kernel)), List.mem_append_right _ (List.mem_of_getElem? (i := 370) (by decide +kernel))⟩, by decide, fun h => (nomatch h)⟩
theorem tmk_74 : t_Mok tq_74 := ⟨fun _ => List.mem_append_right _ (List.mem_of_getElem? (i := 249) (by decide +kernel)), fun h => absurd rfl h, List.mem_append_right _ (List.mem_of_getElem? (i := 1) (by decide +kernel)), ⟨by decide +kernel, by decide +kernel⟩, by decide +kernel, by decide +kernel, rfl, fun cj h => by cases h; exact ⟨TX9, 7, rfl⟩, fun _ => ⟨List.mem_append_right _ (List.mem_of_getElem? (i := 248) (by decide +kernel)), List.mem_append_left _ (List.mem_of_getElem? (i := 2) (by decide +kernel))⟩, by decide, fun h => (nomatch h)⟩
theorem tmk_75 : t_Mok tq_75 := ⟨fun _ => List.mem_append_right _ (List.mem_of_getElem? (i := 305) (by decide +kernel)), fun h => absurd rfl h, List.mem_append_right _ (List.mem_of_getElem? (i := 1) (by decide +kernel)), ⟨by decide +kernel, by decide +kernel⟩, by decide +kernel, by decide +kernel, rfl, fun cj h => by cases h; exact ⟨TX9, 7, rfl⟩, fun _ => ⟨List.mem_append_right _ (List.mem_of_getElem? (i := 304) (by decide +kernel)), List.mem_append_left _ (List.mem_of_getElem? (i := 11) (by decide +kernel))⟩, by decide, fun h => (nomatch h)⟩
theorem tmk_76 : t_Mok tq_76 := ⟨fun _ => List.mem_append_right _ (List.mem_of_getElem? (i := 324) (by decide +kernel)), fun h => absurd rfl h, List.mem_append_right _ (List.mem_of_getElem? (i := 1) (by decide +kernel)), ⟨by decide +kernel, by decide +kernel⟩, by decide +kernel, by decide +kernel, rfl, fun cj h => by cases h; exact ⟨TX9, 7, rfl⟩, fun h => (nomatch h), by decide, fun _ => List.mem_append_right _ (List.mem_of_getElem? (i := 323) (by decide +kernel))⟩
theorem tmk_77 : t_Mok tq_77 := ⟨fun _ => List.mem_append_right _ (List.mem_of_getElem? (i := 245) (by decide +kernel)), fun h => absurd rfl h, List.mem_append_right _ (List.mem_of_getElem? (i := 1) (by decide +kernel)), ⟨by decide +kernel, by decide +kernel⟩, by decide +kernel, by decide +kernel, rfl, fun cj h => by cases h; exact ⟨TX9, 7, rfl⟩, fun _ => ⟨List.mem_append_right _ (List.mem_of_getElem? (i := 244) (by decide +kernel)), List.mem_append_left _ (List.mem_of_getElem? (i := 1) (by decide +kernel))⟩, by decide, fun h => (nomatch h)⟩
theorem tmk_78 : t_Mok tq_78 := ⟨fun _ => List.mem_append_right _ (List.mem_of_getElem? (i := 297) (by decide +kernel)), fun h => absurd rfl h, List.mem_append_right _ (List.mem_of_getElem? (i := 1) (by decide +kernel)), ⟨by decide +kernel, by decide +kernel⟩, by decide +kernel, by decide +kernel, rfl, fun cj h => by cases h; exact ⟨TX9, 7, rfl⟩, fun _ => ⟨List.mem_append_right _ (List.mem_of_getElem? (i := 296) (by decide +kernel)), List.mem_append_left _ (List.mem_of_getElem? (i := 10) (by decide +kernel))⟩, by decide, fun h => (nomatch h)⟩
theorem tmk_79 : t_Mok tq_79 := ⟨fun _ => List.mem_append_right _ (List.mem_of_getElem? (i := 385) (by decide +kernel)), fun h => absurd rfl h, List.mem_append_right _ (List.mem_of_getElem? (i := 1) (by decide +kernel)), ⟨by decide +kernel, by decide +kernel⟩, by decide +kernel, by decide +kernel, rfl, fun cj h => by cases h; exact ⟨TX9, 7, rfl⟩, fun _ => ⟨List.mem_append_right _ (List.mem_of_getElem? (i := 383) (by decide +kernel)), List.mem_append_right _ (List.mem_of_getElem? (i := 384) (by decide +kernel))⟩, by decide, fun h => (nomatch h)⟩
theorem tmk_80 : t_Mok tq_80 := ⟨fun _ => List.mem_append_right _ (List.mem_of_getElem? (i := 389) (by decide +kernel)), fun h => absurd rfl h, List.mem_append_right _ (List.mem_of_getElem? (i := 1) (by decide +kernel)), ⟨by decide +kernel, by decide +kernel⟩, by decide +kernel, by decide +kernel, rfl, fun cj h => by cases h; exact ⟨TX9, 7, rfl⟩, fun _ => ⟨List.mem_append_right _ (List.mem_of_getElem? (i := 387) (by decide +kernel)), List.mem_append_right _ (List.mem_of_getElem? (i := 388) (by decide +kernel))⟩, by decide, fun h => (nomatch h)⟩
theorem tmk_81 : t_Mok tq_81 := ⟨fun _ => List.mem_append_right _ (List.mem_of_getElem? (i := 393) (by decide +kernel)), fun h => absurd rfl h, List.mem_append_right _ (List.mem_of_getElem? (i := 1) (by decide +kernel)), ⟨by decide +kernel, by decide +kernel⟩, by decide +kernel, by decide +kernel, rfl, fun cj h => by cases h; exact ⟨TX9, 7, rfl⟩, fun _ => ⟨List.mem_append_right _ (List.mem_of_getElem? (i := 391) (by decide +kernel)), List.mem_append_right _ (List.mem_of_getElem? (i := 392) (by decide +kernel))⟩, by decide, fun h => (nomatch h)⟩
theorem tmk_82 : t_Mok tq_82 := ⟨fun _ => List.mem_append_right _ (List.mem_of_getElem? (i := 397) (by decide +kernel)), fun h => absurd rfl h, List.mem_append_right _ (List.mem_of_getElem? (i := 1) (by decide +kernel)), ⟨by decide +kernel, by decide +kernel⟩, by decide +kernel, by decide +kernel, rfl, fun cj h => by cases h; exact ⟨TX9, 7, rfl⟩, fun _ => ⟨List.mem_append_right _ (List.mem_of_getElem? (i := 395) (by decide +kernel)), List.mem_append_right _ (List.mem_of_getElem? (i := 396) (by decide +kernel))⟩, by decide, fun h => (nomatch h)⟩
theorem tmk_83 : t_Mok tq_83 := ⟨fun _ => List.mem_append_right _ (List.mem_of_getElem? (i := 403) (by decide +kernel)), fun h => absurd rfl h, List.mem_append_right _ (List.mem_of_getElem? (i := 1) (by decide +kernel)), ⟨by decide +kernel, by decide +kernel⟩, by decide +kernel, by decide +kernel, rfl, fun cj h => by cases h; exact ⟨TX9, 7, rfl⟩, fun _ => ⟨List.mem_append_right _ (List.mem_of_getElem? (i := 401) (by decide +kernel)), List.mem_append_right _ (List.mem_of_getElem? (i := 402) (by decide +kernel))⟩, by decide, fun h => (nomatch h)⟩
theorem tmk_84 : t_Mok tq_84 := ⟨fun _ => List.mem_append_right _ (List.mem_of_getElem? (i := 619) (by decide +kernel)), fun h => absurd rfl h, List.mem_append_right _ (List.mem_of_getElem? (i := 1) (by decide +kernel)), ⟨by decide +kernel, by decide +kernel⟩, by decide +kernel, by decide +kernel, rfl, fun cj h => by cases h; exact ⟨TX9, 7, rfl⟩, fun _ => ⟨List.mem_append_right _ (List.mem_of_getElem? (i := 617) (by decide +kernel)), List.mem_append_right _ (List.mem_of_getElem? (i := 618) (by decide +kernel))⟩, by decide, fun h => (nomatch h)⟩
theorem tmk_85 : t_Mok tq_85 := ⟨fun _ => List.mem_append_right _ (List.mem_of_getElem? (i := 551) (by decide +kernel)), fun h => absurd rfl h, List.mem_append_right _ (List.mem_of_getElem? (i := 1) (by decide +kernel)), ⟨by decide +kernel, by decide +kernel⟩, by decide +kernel, by decide +kernel, rfl, fun cj h => by cases h; exact ⟨TX9, 7, rfl⟩, fun _ => ⟨List.mem_append_right _ (List.mem_of_getElem? (i := 549) (by decide +kernel)), List.mem_append_right _ (List.mem_of_getElem? (i := 550) (by decide +kernel))⟩, by decide, fun h => (nomatch h)⟩
theorem tmk_86 : t_Mok tq_86 := ⟨fun _ => List.mem_append_right _ (List.mem_of_getElem? (i := 581) (by decide +kernel)), fun h => absurd rfl h, List.mem_append_right _ (List.mem_of_getElem? (i := 1) (by decide +kernel)), ⟨by decide +kernel, by decide +kernel⟩, by decide +kernel, by decide +kernel, rfl, fun cj h => by cases h; exact ⟨TX9, 7, rfl⟩, fun _ => ⟨List.mem_append_right _ (List.mem_of_getElem? (i := 579) (by decide +kernel)), List.mem_append_right _ (List.mem_of_getElem? (i := 580) (by decide +kernel))⟩, by decide, fun h => (nomatch h)⟩
theorem tmk_87 : t_Mok tq_87 := ⟨fun _ => List.mem_append_right _ (List.mem_of_getElem? (i := 589) (by decide +kernel)), fun h => absurd rfl h, List.mem_append_right _ (List.mem_of_getElem? (i := 1) (by decide +kernel)), ⟨by decide +kernel, by decide +kernel⟩, by decide +kernel, by decide +kernel, rfl, fun cj h => by cases h; exact ⟨TX9, 7, rfl⟩, fun _ => ⟨List.mem_append_right _ (List.mem_of_getElem? (i := 587) (by decide +kernel)), List.mem_append_right _ (List.mem_of_getElem? (i := 588) (by decide +kernel))⟩, by decide, fun h => (nomatch h)⟩
theorem tmk_88 : t_Mok tq_88 := ⟨fun _ => List.mem_append_right _ (List.mem_of_getElem? (i := 605) (by decide +kernel)), fun h => absurd rfl h, List.mem_append_right _ (List.mem_of_getElem? (i := 1) (by decide +kernel)), ⟨by decide +kernel, by decide +kernel⟩, by decide +kernel, by decide +kernel, rfl, fun cj h => by cases h; exact ⟨TX9, 7, rfl⟩, fun _ => ⟨List.mem_append_right _ (List.mem_of_getElem? (i := 603) (by decide +kernel)), List.mem_append_right _ (List.mem_of_getElem? (i := 604) (by decide +kernel))⟩, by decide, fun h => (nomatch h)⟩
theorem tmk_89 : t_Mok tq_89 := ⟨fun _ => List.mem_append_right _ (List.mem_of_getElem? (i := 614) (by decide +kernel)), fun h => absurd rfl h, List.mem_append_right _ (List.mem_of_getElem? (i := 1) (by decide +kernel)), ⟨by decide +kernel, by decide +kernel⟩, by decide +kernel, by decide +kernel, rfl, fun cj h => by cases h; exact ⟨TX9, 7, rfl⟩, fun _ => ⟨List.mem_append_right _ (List.mem_of_getElem? (i := 612) (by decide +kernel)), List.mem_append_right _ (List.mem_of_getElem? (i := 613) (by decide +kernel))⟩, by decide, fun h => (nomatch h)⟩
theorem tmk_90 : t_Mok tq_90 := ⟨fun _ => List.mem_append_right _ (List.mem_of_getElem? (i := 624) (by decide +kernel)), fun h => absurd rfl h, List.mem_append_right _ (List.mem_of_getElem? (i := 1) (by decide +kernel)), ⟨by decide +kernel, by decide +kernel⟩, by decide +kernel, by decide +kernel, rfl, fun cj h => by cases h; exact ⟨TX9, 7, rfl⟩, fun _ => ⟨List.mem_append_right _ (List.mem_of_getElem? (i := 622) (by decide +kernel)), List.mem_append_right _ (List.mem_of_getElem? (i := 623) (by decide +kernel))⟩, by decide, fun h => (nomatch h)⟩
theorem tmk_91 : t_Mok tq_91 := ⟨fun _ => List.mem_append_right _ (List.mem_of_getElem? (i := 593) (by decide +kernel)), fun h => absurd rfl h, List.mem_append_right _ (List.mem_of_getElem? (i := 1) (by decide +kernel)), ⟨by decide +kernel, by decide +kernel⟩, by decide +kernel, by decide +kernel, rfl, fun cj h => by cases h; exact ⟨TX9, 7, rfl⟩, fun _ => ⟨List.mem_append_right _ (List.mem_of_getElem? (i := 591) (by decide +kernel)), List.mem_append_right _ (List.mem_of_getElem? (i := 592) (by decide +kernel))⟩, by decide, fun h => (nomatch h)⟩
theorem tmk_95 : t_Mok tq_95 := ⟨fun _ => List.mem_append_right _ (List.mem_of_getElem? (i := 408) (by decide +kernel)), fun h => absurd rfl h, List.mem_append_right _ (List.mem_of_getElem? (i := 1) (by decide +kernel)), ⟨by decide +kernel, by decide +kernel⟩, by decide +kernel, by decide +kernel, rfl, fun cj h => by cases h; exact ⟨TX9, 7, rfl⟩, fun _ => ⟨List.mem_append_right _ (List.mem_of_getElem? (i := 406) (by decide +kernel)), List.mem_append_right _ (List.mem_of_getElem? (i := 407) (by decide +kernel))⟩, by decide, fun h => (nomatch h)⟩
theorem tmk_96 : t_Mok tq_96 := ⟨fun _ => List.mem_append_right _ (List.mem_of_getElem? (i := 492) (by decide +kernel)), fun h => absurd rfl h, List.mem_append_right _ (List.mem_of_getElem? (i := 1) (by decide +kernel)), ⟨by decide +kernel, by decide +kernel⟩, by decide +kernel, by decide +kernel, rfl, fun cj h => by cases h; exact ⟨TX9, 7, rfl⟩, fun _ => ⟨List.mem_append_right _ (List.mem_of_getElem? (i := 490) (by decide +kernel)), List.mem_append_right _ (List.mem_of_getElem? (i := 491) (by decide +kernel))⟩, by decide, fun h => (nomatch h)⟩
theorem tmk_97 : t_Mok tq_97 := ⟨fun _ => List.mem_append_right _ (List.mem_of_getElem? (i := 452) (by decide +kernel)), fun h => absurd rfl h, List.mem_append_right _ (List.mem_of_getElem? (i := 1) (by decide +kernel)), ⟨by decide +kernel, by decide +kernel⟩, by decide +kernel, by decide +kernel, rfl, fun cj h => by cases h; exact ⟨TX9, 7, rfl⟩, fun _ => ⟨List.mem_append_right _ (List.mem_of_getElem? (i := 450) (by decide +kernel)), List.mem_append_right _ (List.mem_of_getElem? (i := 451) (by decide +kernel))⟩, by decide, fun h => (nomatch h)⟩
theorem tmk_99 : t_Mok tq_99 := ⟨fun _ => List.mem_append_right _ (List.mem_of_getElem? (i := 460) (by decide +kernel)), fun h => absurd rfl h, List.mem_append_right _ (List.mem_of_getElem? (i := 0) (by decide +kernel)), ⟨by decide +kernel, by decide +kernel⟩, by decide +kernel, by decide +kernel, rfl, fun _ h => (nomatch h), fun h => (nomatch h), by decide, fun _ => List.mem_append_right _ (List.mem_of_getElem? (i := 459) (by decide +kernel))⟩
theorem tmk_100 : t_Mok tq_100 := ⟨fun _ => List.mem_append_right _ (List.mem_of_getElem? (i := 465) (by decide +kernel)), fun h => absurd rfl h, List.mem_append_right _ (List.mem_of_getElem? (i := 0) (by decide +kernel)), ⟨by decide +kernel, by decide +kernel⟩, by decide +kernel, by decide +kernel, rfl, fun _ h => (nomatch h), fun h => (nomatch h), by decide, fun _ => List.mem_append_right _ (List.mem_of_getElem? (i := 464) (by decide +kernel))⟩
theorem tmk_101 : t_Mok tq_101 := ⟨fun h => (nomatch h), fun _ => ⟨List.mem_append_right _ (List.mem_of_getElem? (i := 469) (by decide +kernel)), rfl⟩, List.mem_append_right _ (List.mem_of_getElem? (i := 0) (by decide +kernel)), ⟨by decide +kernel, by decide +kernel⟩, by decide +kernel, by decide +kernel, rfl, fun _ h => (nomatch h), fun h => (nomatch h), by decide, fun _ => List.mem_append_right _ (List.mem_of_getElem? (i := 468) (by decide +kernel))⟩
theorem tmk_102 : t_Mok tq_102 := ⟨fun h => (nomatch h), fun _ => ⟨List.mem_append_right _ (List.mem_of_getElem? (i := 488) (by decide +kernel)), rfl⟩, List.mem_append_right _ (List.mem_of_getElem? (i := 0) (by decide +kernel)), ⟨by decide +kernel, by decide +kernel⟩, by decide +kernel, by decide +kernel, rfl, fun _ h => (nomatch h), fun h => (nomatch h), by decide, fun _ => List.mem_append_right _ (List.mem_of_getElem? (i := 487) (by decide +kernel))⟩
theorem tmk_103 : t_Mok tq_103 := ⟨fun h => (nomatch h), fun _ => ⟨List.mem_append_right _ (List.mem_of_getElem? (i := 515) (by decide +kernel)), rfl⟩, List.mem_append_right _ (List.mem_of_getElem? (i := 0) (by decide +kernel)), ⟨by decide +kernel, by decide +kernel⟩, by decide +kernel, by decide +kernel, rfl, fun _ h => (nomatch h), fun h => (nomatch h), by decide, fun _ => List.mem_append_right _ (List.mem_of_getElem? (i := 514) (by decide +kernel))⟩
theorem tmk_104 : t_Mok tq_104 := ⟨fun _ => List.mem_append_right _ (List.mem_of_getElem? (i := 526) (by decide +kernel)), fun h => absurd rfl h, List.mem_append_right _ (List.mem_of_getElem? (i := 0) (by decide +kernel)), ⟨by decide +kernel, by decide +kernel⟩, by decide +kernel, by decide +kernel, rfl, fun _ h => (nomatch h), fun h => (nomatch h), by decide, fun _ => List.mem_append_right _ (List.mem_of_getElem? (i := 525) (by decide +kernel))⟩
theorem tmk_105 : t_Mok tq_105 := ⟨fun _ => List.mem_append_right _ (List.mem_of_getElem? (i := 529) (by decide +kernel)), fun h => absurd rfl h, List.mem_append_right _ (List.mem_of_getElem? (i := 0) (by decide +kernel)), ⟨by decide +kernel, by decide +kernel⟩, by decide +kernel, by decide +kernel, rfl, fun _ h => (nomatch h), fun h => (nomatch h), by decide, fun _ => List.mem_append_right _ (List.mem_of_getElem? (i := 528) (by decide +kernel))⟩
theorem tmk_106 : t_Mok tq_106 := ⟨fun _ => List.mem_append_right _ (List.mem_of_getElem? (i := 532) (by decide +kernel)), fun h => absurd rfl h, List.mem_append_right _ (List.mem_of_getElem? (i := 0) (by decide +kernel)), ⟨by decide +kernel, by decide +kernel⟩, by decide +kernel, by decide +kernel, rfl, fun _ h => (nomatch h), fun h => (nomatch h), by decide, fun _ => List.mem_append_right _ (List.mem_of_getElem? (i := 531) (by decide +kernel))⟩
theorem tmk_107 : t_Mok tq_107 := ⟨fun _ => List.mem_append_right _ (List.mem_of_getElem? (i := 535) (by decide +kernel)), fun h => absurd rfl h, List.mem_append_right _ (List.mem_of_getElem? (i := 0) (by decide +kernel)), ⟨by decide +kernel, by decide +kernel⟩, by decide +kernel, by decide +kernel, rfl, fun _ h => (nomatch h), fun h => (nomatch h), by decide, fun _ => List.mem_append_right _ (List.mem_of_getElem? (i := 534) (by decide +kernel))⟩
theorem tmk_108 : t_Mok tq_108 := ⟨fun _ => List.mem_append_right _ (List.mem_of_getElem? (i := 585) (by decide +kernel)), fun h => absurd rfl h, List.mem_append_right _ (List.mem_of_getElem? (i := 0) (by decide +kernel)), ⟨by decide +kernel, by decide +kernel⟩, by decide +kernel, by decide +kernel, rfl, fun _ h => (nomatch h), fun h => (nomatch h), by decide, fun _ => List.mem_append_right _ (List.mem_of_getElem? (i := 584) (by decide +kernel))⟩
theorem tmk_109 : t_Mok tq_109 := ⟨fun _ => List.mem_append_right _ (List.mem_of_getElem? (i := 547) (by decide +kernel)), fun h => absurd rfl h, List.mem_append_right _ (List.mem_of_getElem? (i := 0) (by decide +kernel)), ⟨by decide +kernel, by decide +kernel⟩, by decide +kernel, by decide +kernel, rfl, fun _ h => (nomatch h), fun h => (nomatch h), by decide, fun _ => List.mem_append_right _ (List.mem_of_getElem? (i := 546) (by decide +kernel))⟩
theorem tmk_110 : t_Mok tq_110 := ⟨fun _ => List.mem_append_right _ (List.mem_of_getElem? (i := 544) (by decide +kernel)), fun h => absurd rfl h, List.mem_append_right _ (List.mem_of_getElem? (i := 0) (by decide +kernel)), ⟨by decide +kernel, by decide +kernel⟩, by decide +kernel, by decide +kernel, rfl, fun _ h => (nomatch h), fun h => (nomatch h), by decide, fun _ => List.mem_append_right _ (List.mem_of_getElem? (i := 543) (by decide +kernel))⟩
theorem tmk_111 : t_Mok tq_111 := ⟨fun _ => List.mem_append_right _ (List.mem_of_getElem? (i := 538) (by decide +kernel)), fun h => absurd rfl h, List.mem_append_right _ (List.mem_of_getElem? (i := 0) (by decide +kernel)), ⟨by decide +kernel, by decide +kernel⟩, by decide +kernel, by decide +kernel, rfl, fun _ h => (nomatch h), fun h => (nomatch h), by decide, fun _ => List.mem_append_right _ (List.mem_of_getElem? (i := 537) (by decide +kernel))⟩
theorem tmk_112 : t_Mok tq_112 := ⟨fun _ => List.mem_append_right _ (List.mem_of_getElem? tcode_112), fun h => absurd rfl h, List.mem_append_right _ (List.mem_of_getElem? (i := 0) (by decide +kernel)), ⟨by decide +kernel, by decide +kernel⟩, by decide +kernel, by decide +kernel, rfl, fun _ h => (nomatch h), fun h => (nomatch h), by decide, fun _ => List.mem_append_right _ (List.mem_of_getElem? (i := 540) (by decide +kernel))⟩
theorem tmk_113 : t_Mok tq_113 := ⟨fun _ => List.mem_append_right _ (List.mem_of_getElem? (i := 633) (by decide +kernel)), fun h => absurd rfl h, List.mem_append_right _ (List.mem_of_getElem? (i := 0) (by decide +kernel)), ⟨by decide +kernel, by decide +kernel⟩, by decide +kernel, by decide +kernel, rfl, fun _ h => (nomatch h), fun h => (nomatch h), by decide, fun _ => List.mem_append_right _ (List.mem_of_getElem? (i := 632) (by decide +kernel))⟩
set_option maxRecDepth 20000 in
theorem t_mok {mi : Nat} {q : tM} (h : t_M[mi]? = some q) (hl : mi < 114) : t_Mok q := by
  have hh : ∀ q ∈ t_M.take 114, t_Mok q := List.forall_mem_cons.mpr ⟨tmk_0, List.forall_mem_cons.mpr ⟨tmk_1, List.forall_mem_cons.mpr ⟨tmk_2, List.forall_mem_cons.mpr ⟨tmk_3, List.forall_mem_cons.mpr ⟨tmk_4, List.forall_mem_cons.mpr ⟨tmk_5, List.forall_mem_cons.mpr ⟨tmk_6, List.forall_mem_cons.mpr ⟨tmk_7, List.forall_mem_cons.mpr ⟨tmk_8, List.forall_mem_cons.mpr ⟨tmk_9, List.forall_mem_cons.mpr ⟨tmk_10, List.forall_mem_cons.mpr ⟨tmk_11, List.forall_mem_cons.mpr ⟨tmk_12, List.forall_mem_cons.mpr ⟨tmk_13, List.forall_mem_cons.mpr ⟨tmk_14, List.forall_mem_cons.mpr ⟨tmk_0, List.forall_mem_cons.mpr ⟨tmk_0, List.forall_mem_cons.mpr ⟨tmk_0, List.forall_mem_cons.mpr ⟨tmk_0, List.forall_mem_cons.mpr ⟨tmk_0, List.forall_mem_cons.mpr ⟨tmk_0, List.forall_mem_cons.mpr ⟨tmk_21, List.forall_mem_cons.mpr ⟨tmk_22, List.forall_mem_cons.mpr ⟨tmk_23, List.forall_mem_cons.mpr ⟨tmk_24, List.forall_mem_cons.mpr ⟨tmk_25, List.forall_mem_cons.mpr ⟨tmk_26, List.forall_mem_cons.mpr ⟨tmk_27, List.forall_mem_cons.mpr ⟨tmk_0, List.forall_mem_cons.mpr ⟨tmk_29, List.forall_mem_cons.mpr ⟨tmk_0, List.forall_mem_cons.mpr ⟨tmk_31, List.forall_mem_cons.mpr ⟨tmk_32, List.forall_mem_cons.mpr ⟨tmk_33, List.forall_mem_cons.mpr ⟨tmk_34, List.forall_mem_cons.mpr ⟨tmk_35, List.forall_mem_cons.mpr ⟨tmk_36, List.forall_mem_cons.mpr ⟨tmk_37, List.forall_mem_cons.mpr ⟨tmk_0, List.forall_mem_cons.mpr ⟨tmk_39, List.forall_mem_cons.mpr ⟨tmk_40, List.forall_mem_cons.mpr ⟨tmk_41, List.forall_mem_cons.mpr ⟨tmk_42, List.forall_mem_cons.mpr ⟨tmk_0, List.forall_mem_cons.mpr ⟨tmk_44, List.forall_mem_cons.mpr ⟨tmk_45, List.forall_mem_cons.mpr ⟨tmk_46, List.forall_mem_cons.mpr ⟨tmk_47, List.forall_mem_cons.mpr ⟨tmk_48, List.forall_mem_cons.mpr ⟨tmk_49, List.forall_mem_cons.mpr ⟨tmk_0, List.forall_mem_cons.mpr ⟨tmk_51, List.forall_mem_cons.mpr ⟨tmk_52, List.forall_mem_cons.mpr ⟨tmk_53, List.forall_mem_cons.mpr ⟨tmk_54, List.forall_mem_cons.mpr ⟨tmk_0, List.forall_mem_cons.mpr ⟨tmk_0, List.forall_mem_cons.mpr ⟨tmk_0, List.forall_mem_cons.mpr ⟨tmk_0, List.forall_mem_cons.mpr ⟨tmk_0, List.forall_mem_cons.mpr ⟨tmk_0, List.forall_mem_cons.mpr ⟨tmk_0, List.forall_mem_cons.mpr ⟨tmk_62, List.forall_mem_cons.mpr ⟨tmk_63, List.forall_mem_cons.mpr ⟨tmk_0, List.forall_mem_cons.mpr ⟨tmk_0, List.forall_mem_cons.mpr ⟨tmk_0, List.forall_mem_cons.mpr ⟨tmk_0, List.forall_mem_cons.mpr ⟨tmk_68, List.forall_mem_cons.mpr ⟨tmk_0, List.forall_mem_cons.mpr ⟨tmk_70, List.forall_mem_cons.mpr ⟨tmk_71, List.forall_mem_cons.mpr ⟨tmk_72, List.forall_mem_cons.mpr ⟨tmk_0, List.forall_mem_cons.mpr ⟨tmk_74, List.forall_mem_cons.mpr ⟨tmk_75, List.forall_mem_cons.mpr ⟨tmk_76, List.forall_mem_cons.mpr ⟨tmk_77, List.forall_mem_cons.mpr ⟨tmk_78, List.forall_mem_cons.mpr ⟨tmk_79, List.forall_mem_cons.mpr ⟨tmk_80, List.forall_mem_cons.mpr ⟨tmk_81, List.forall_mem_cons.mpr ⟨tmk_82, List.forall_mem_cons.mpr ⟨tmk_83, List.forall_mem_cons.mpr ⟨tmk_84, List.forall_mem_cons.mpr ⟨tmk_85, List.forall_mem_cons.mpr ⟨tmk_86, List.forall_mem_cons.mpr ⟨tmk_87, List.forall_mem_cons.mpr ⟨tmk_88, List.forall_mem_cons.mpr ⟨tmk_89, List.forall_mem_cons.mpr ⟨tmk_90, List.forall_mem_cons.mpr ⟨tmk_91, List.forall_mem_cons.mpr ⟨tmk_0, List.forall_mem_cons.mpr ⟨tmk_0, List.forall_mem_cons.mpr ⟨tmk_0, List.forall_mem_cons.mpr ⟨tmk_95, List.forall_mem_cons.mpr ⟨tmk_96, List.forall_mem_cons.mpr ⟨tmk_97, List.forall_mem_cons.mpr ⟨tmk_0, List.forall_mem_cons.mpr ⟨tmk_99, List.forall_mem_cons.mpr ⟨tmk_100, List.forall_mem_cons.mpr ⟨tmk_101, List.forall_mem_cons.mpr ⟨tmk_102, List.forall_mem_cons.mpr ⟨tmk_103, List.forall_mem_cons.mpr ⟨tmk_104, List.forall_mem_cons.mpr ⟨tmk_105, List.forall_mem_cons.mpr ⟨tmk_106, List.forall_mem_cons.mpr ⟨tmk_107, List.forall_mem_cons.mpr ⟨tmk_108, List.forall_mem_cons.mpr ⟨tmk_109, List.forall_mem_cons.mpr ⟨tmk_110, List.forall_mem_cons.mpr ⟨tmk_111, List.forall_mem_cons.mpr ⟨tmk_112, List.forall_mem_cons.mpr ⟨tmk_113, fun _ h => absurd h List.not_mem_nil⟩⟩⟩⟩⟩⟩⟩⟩⟩⟩⟩⟩⟩⟩⟩⟩⟩⟩⟩⟩⟩⟩⟩⟩⟩⟩⟩⟩⟩⟩⟩⟩⟩⟩⟩⟩⟩⟩⟩⟩⟩⟩⟩⟩⟩⟩⟩⟩⟩⟩⟩⟩⟩⟩⟩⟩⟩⟩⟩⟩⟩⟩⟩⟩⟩⟩⟩⟩⟩⟩⟩⟩⟩⟩⟩⟩⟩⟩⟩⟩⟩⟩⟩⟩⟩⟩⟩⟩⟩⟩⟩⟩⟩⟩⟩⟩⟩⟩⟩⟩⟩⟩⟩⟩⟩⟩⟩⟩⟩⟩⟩⟩⟩⟩
  refine hh q (List.mem_of_getElem? (i := mi) ?_)
  rw [List.getElem?_take]
  rw [if_pos hl]
  exact h
theorem t_arr : Cond.arrayClass .int ∈ lw_tbl := List.mem_append_right _ (List.mem_of_getElem? (i := 44) (by decide +kernel))
def t_Xok (f : Nat × Nat × Bool) : Prop := Cond.methodLink (t_cn f.1) f.2.1 (if f.2.2 = true then Lib.Math.max.name else Lib.Math.min.name) ∈ lw_tbl
theorem tx_0 : t_Xok (5, 15, false) := List.mem_append_right _ (List.mem_of_getElem? (i := 424) (by decide +kernel))
theorem tx_1 : t_Xok (5, 21, true) := List.mem_append_right _ (List.mem_of_getElem? (i := 427) (by decide +kernel))
theorem tx_2 : t_Xok (7, 66, false) := List.mem_append_right _ (List.mem_of_getElem? (i := 630) (by decide +kernel))
theorem tx_3 : t_Xok (9, 281, false) := List.mem_append_right _ (List.mem_of_getElem? (i := 510) (by decide +kernel))
theorem tx_4 : t_Xok (9, 286, true) := List.mem_append_right _ (List.mem_of_getElem? (i := 511) (by decide +kernel))
theorem t_xok : ∀ f ∈ t_mt, t_Xok f := List.forall_mem_cons.mpr ⟨tx_0, List.forall_mem_cons.mpr ⟨tx_1, List.forall_mem_cons.mpr ⟨tx_2, List.forall_mem_cons.mpr ⟨tx_3, List.forall_mem_cons.mpr ⟨tx_4, fun _ h => absurd h List.not_mem_nil⟩⟩⟩⟩⟩
theorem t_mmax : Cond.static Lib.Math.max.name ∈ lw_tbl ∧ Cond.initialized "java/lang/Math" ∈ lw_tbl ∧ Cond.code Lib.Math.max.name Lib.Math.max.code 2 (some .int) ∈ lw_tbl := ⟨List.mem_append_right _ (List.mem_of_getElem? (i := 428) (by decide +kernel)), List.mem_append_right _ (List.mem_of_getElem? (i := 18) (by decide +kernel)), List.mem_append_right _ (List.mem_of_getElem? (i := 429) (by decide +kernel))⟩
theorem t_mmin : Cond.static Lib.Math.min.name ∈ lw_tbl ∧ Cond.initialized "java/lang/Math" ∈ lw_tbl ∧ Cond.code Lib.Math.min.name Lib.Math.min.code 2 (some .int) ∈ lw_tbl := ⟨List.mem_append_right _ (List.mem_of_getElem? (i := 425) (by decide +kernel)), List.mem_append_right _ (List.mem_of_getElem? (i := 18) (by decide +kernel)), List.mem_append_right _ (List.mem_of_getElem? (i := 426) (by decide +kernel))⟩
def t_Lok (f : Nat × Nat × Nat) : Prop := f.2.2 < 114 ∧ ∀ q, t_M[f.2.2]? = some q → Cond.methodLink (t_cn f.1) f.2.1 (tm_y q) ∈ lw_tbl ∨ (tm_hh q = [] ∧ ∃ host, Cond.methodLinkNest (t_cn f.1) f.2.1 (tm_y q) host ∈ lw_tbl)
theorem tl_0 : t_Lok (0, 9, 2) := ⟨by decide, fun q h => by cases (ta_2).symm.trans h; exact Or.inl (List.mem_append_right _ (List.mem_of_getElem? (i := 565) (by decide +kernel)))⟩
theorem tl_1 : t_Lok (0, 15, 4) := ⟨by decide, fun q h => by cases (ta_4).symm.trans h; exact Or.inl (List.mem_append_right _ (List.mem_of_getElem? (i := 576) (by decide +kernel)))⟩
theorem tl_2 : t_Lok (1, 7, 6) := ⟨by decide, fun q h => by cases (ta_6).symm.trans h; exact Or.inl (List.mem_append_right _ (List.mem_of_getElem? (i := 380) (by decide +kernel)))⟩
theorem tl_3 : t_Lok (1, 13, 7) := ⟨by decide, fun q h => by cases (ta_7).symm.trans h; exact Or.inl (List.mem_append_right _ (List.mem_of_getElem? (i := 381) (by decide +kernel)))⟩
theorem tl_4 : t_Lok (2, 29, 33) := ⟨by decide, fun q h => by cases (ta_33).symm.trans h; exact Or.inr ⟨rfl, "TurnsHall", List.mem_append_right _ (List.mem_of_getElem? (i := 291) (by decide +kernel))⟩⟩
theorem tl_5 : t_Lok (2, 35, 7) := ⟨by decide, fun q h => by cases (ta_7).symm.trans h; exact Or.inl (List.mem_append_right _ (List.mem_of_getElem? (i := 292) (by decide +kernel)))⟩
theorem tl_6 : t_Lok (2, 41, 34) := ⟨by decide, fun q h => by cases (ta_34).symm.trans h; exact Or.inr ⟨rfl, "TurnsHall", List.mem_append_right _ (List.mem_of_getElem? (i := 293) (by decide +kernel))⟩⟩
theorem tl_7 : t_Lok (2, 54, 22) := ⟨by decide, fun q h => by cases (ta_22).symm.trans h; exact Or.inl (List.mem_append_right _ (List.mem_of_getElem? (i := 457) (by decide +kernel)))⟩
theorem tl_8 : t_Lok (2, 60, 39) := ⟨by decide, fun q h => by cases (ta_39).symm.trans h; exact Or.inr ⟨rfl, "TurnsHall", List.mem_append_right _ (List.mem_of_getElem? (i := 498) (by decide +kernel))⟩⟩
theorem tl_9 : t_Lok (2, 64, 10) := ⟨by decide, fun q h => by cases (ta_10).symm.trans h; exact Or.inl (List.mem_append_right _ (List.mem_of_getElem? (i := 499) (by decide +kernel)))⟩
theorem tl_10 : t_Lok (2, 68, 52) := ⟨by decide, fun q h => by cases (ta_52).symm.trans h; exact Or.inr ⟨rfl, "TurnsHall", List.mem_append_right _ (List.mem_of_getElem? (i := 500) (by decide +kernel))⟩⟩
theorem tl_11 : t_Lok (3, 15, 4) := ⟨by decide, fun q h => by cases (ta_4).symm.trans h; exact Or.inl (List.mem_append_right _ (List.mem_of_getElem? (i := 562) (by decide +kernel)))⟩
theorem tl_12 : t_Lok (3, 21, 13) := ⟨by decide, fun q h => by cases (ta_13).symm.trans h; exact Or.inl (List.mem_append_right _ (List.mem_of_getElem? (i := 569) (by decide +kernel)))⟩
theorem tl_13 : t_Lok (3, 27, 39) := ⟨by decide, fun q h => by cases (ta_39).symm.trans h; exact Or.inr ⟨rfl, "TurnsHall", List.mem_append_right _ (List.mem_of_getElem? (i := 572) (by decide +kernel))⟩⟩
theorem tl_14 : t_Lok (3, 31, 2) := ⟨by decide, fun q h => by cases (ta_2).symm.trans h; exact Or.inl (List.mem_append_right _ (List.mem_of_getElem? (i := 559) (by decide +kernel)))⟩
theorem tl_15 : t_Lok (3, 35, 12) := ⟨by decide, fun q h => by cases (ta_12).symm.trans h; exact Or.inl (List.mem_append_right _ (List.mem_of_getElem? (i := 566) (by decide +kernel)))⟩
theorem tl_16 : t_Lok (5, 24, 21) := ⟨by decide, fun q h => by cases (ta_21).symm.trans h; exact Or.inl (List.mem_append_right _ (List.mem_of_getElem? (i := 421) (by decide +kernel)))⟩
theorem tl_17 : t_Lok (5, 36, 24) := ⟨by decide, fun q h => by cases (ta_24).symm.trans h; exact Or.inl (List.mem_append_right _ (List.mem_of_getElem? (i := 413) (by decide +kernel)))⟩
theorem tl_18 : t_Lok (5, 40, 51) := ⟨by decide, fun q h => by cases (ta_51).symm.trans h; exact Or.inr ⟨rfl, "TurnsHall", List.mem_append_right _ (List.mem_of_getElem? (i := 417) (by decide +kernel))⟩⟩
theorem tl_19 : t_Lok (5, 44, 6) := ⟨by decide, fun q h => by cases (ta_6).symm.trans h; exact Or.inl (List.mem_append_right _ (List.mem_of_getElem? (i := 430) (by decide +kernel)))⟩
theorem tl_20 : t_Lok (5, 50, 22) := ⟨by decide, fun q h => by cases (ta_22).symm.trans h; exact Or.inl (List.mem_append_right _ (List.mem_of_getElem? (i := 431) (by decide +kernel)))⟩
theorem tl_21 : t_Lok (5, 53, 7) := ⟨by decide, fun q h => by cases (ta_7).symm.trans h; exact Or.inl (List.mem_append_right _ (List.mem_of_getElem? (i := 434) (by decide +kernel)))⟩
theorem tl_22 : t_Lok (5, 57, 1) := ⟨by decide, fun q h => by cases (ta_1).symm.trans h; exact Or.inl (List.mem_append_right _ (List.mem_of_getElem? (i := 610) (by decide +kernel)))⟩
theorem tl_23 : t_Lok (5, 63, 5) := ⟨by decide, fun q h => by cases (ta_5).symm.trans h; exact Or.inl (List.mem_append_right _ (List.mem_of_getElem? (i := 598) (by decide +kernel)))⟩
theorem tl_24 : t_Lok (5, 68, 4) := ⟨by decide, fun q h => by cases (ta_4).symm.trans h; exact Or.inl (List.mem_append_right _ (List.mem_of_getElem? (i := 599) (by decide +kernel)))⟩
theorem tl_25 : t_Lok (5, 72, 25) := ⟨by decide, fun q h => by cases (ta_25).symm.trans h; exact Or.inl (List.mem_append_right _ (List.mem_of_getElem? (i := 439) (by decide +kernel)))⟩
theorem tl_26 : t_Lok (5, 76, 2) := ⟨by decide, fun q h => by cases (ta_2).symm.trans h; exact Or.inl (List.mem_append_right _ (List.mem_of_getElem? (i := 600) (by decide +kernel)))⟩
theorem tl_27 : t_Lok (5, 79, 27) := ⟨by decide, fun q h => by cases (ta_27).symm.trans h; exact Or.inl (List.mem_append_right _ (List.mem_of_getElem? (i := 601) (by decide +kernel)))⟩
theorem tl_28 : t_Lok (6, 22, 33) := ⟨by decide, fun q h => by cases (ta_33).symm.trans h; exact Or.inl (List.mem_append_right _ (List.mem_of_getElem? (i := 259) (by decide +kernel)))⟩
theorem tl_29 : t_Lok (6, 26, 34) := ⟨by decide, fun q h => by cases (ta_34).symm.trans h; exact Or.inl (List.mem_append_right _ (List.mem_of_getElem? (i := 266) (by decide +kernel)))⟩
theorem tl_30 : t_Lok (6, 29, 35) := ⟨by decide, fun q h => by cases (ta_35).symm.trans h; exact Or.inl (List.mem_append_right _ (List.mem_of_getElem? (i := 270) (by decide +kernel)))⟩
theorem tl_31 : t_Lok (6, 33, 7) := ⟨by decide, fun q h => by cases (ta_7).symm.trans h; exact Or.inl (List.mem_append_right _ (List.mem_of_getElem? (i := 485) (by decide +kernel)))⟩
theorem tl_32 : t_Lok (6, 39, 6) := ⟨by decide, fun q h => by cases (ta_6).symm.trans h; exact Or.inl (List.mem_append_right _ (List.mem_of_getElem? (i := 263) (by decide +kernel)))⟩
theorem tl_33 : t_Lok (6, 43, 0) := ⟨by decide, fun q h => by cases (ta_0).symm.trans h; exact Or.inl (List.mem_append_right _ (List.mem_of_getElem? (i := 274) (by decide +kernel)))⟩
theorem tl_34 : t_Lok (6, 52, 36) := ⟨by decide, fun q h => by cases (ta_36).symm.trans h; exact Or.inl (List.mem_append_right _ (List.mem_of_getElem? (i := 255) (by decide +kernel)))⟩
theorem tl_35 : t_Lok (6, 56, 41) := ⟨by decide, fun q h => by cases (ta_41).symm.trans h; exact Or.inr ⟨rfl, "TurnsHall", List.mem_append_right _ (List.mem_of_getElem? (i := 277) (by decide +kernel))⟩⟩
theorem tl_36 : t_Lok (7, 15, 40) := ⟨by decide, fun q h => by cases (ta_40).symm.trans h; exact Or.inl (List.mem_append_right _ (List.mem_of_getElem? (i := 281) (by decide +kernel)))⟩
theorem tl_37 : t_Lok (7, 19, 6) := ⟨by decide, fun q h => by cases (ta_6).symm.trans h; exact Or.inl (List.mem_append_right _ (List.mem_of_getElem? (i := 350) (by decide +kernel)))⟩
theorem tl_38 : t_Lok (7, 25, 7) := ⟨by decide, fun q h => by cases (ta_7).symm.trans h; exact Or.inl (List.mem_append_right _ (List.mem_of_getElem? (i := 284) (by decide +kernel)))⟩
theorem tl_39 : t_Lok (7, 33, 39) := ⟨by decide, fun q h => by cases (ta_39).symm.trans h; exact Or.inl (List.mem_append_right _ (List.mem_of_getElem? (i := 346) (by decide +kernel)))⟩
theorem tl_40 : t_Lok (7, 36, 41) := ⟨by decide, fun q h => by cases (ta_41).symm.trans h; exact Or.inl (List.mem_append_right _ (List.mem_of_getElem? (i := 351) (by decide +kernel)))⟩
theorem tl_41 : t_Lok (7, 44, 46) := ⟨by decide, fun q h => by cases (ta_46).symm.trans h; exact Or.inl (List.mem_append_right _ (List.mem_of_getElem? (i := 352) (by decide +kernel)))⟩
theorem tl_42 : t_Lok (7, 48, 47) := ⟨by decide, fun q h => by cases (ta_47).symm.trans h; exact Or.inl (List.mem_append_right _ (List.mem_of_getElem? (i := 356) (by decide +kernel)))⟩
theorem tl_43 : t_Lok (7, 52, 48) := ⟨by decide, fun q h => by cases (ta_48).symm.trans h; exact Or.inl (List.mem_append_right _ (List.mem_of_getElem? (i := 360) (by decide +kernel)))⟩
theorem tl_44 : t_Lok (7, 56, 49) := ⟨by decide, fun q h => by cases (ta_49).symm.trans h; exact Or.inl (List.mem_append_right _ (List.mem_of_getElem? (i := 364) (by decide +kernel)))⟩
theorem tl_45 : t_Lok (7, 63, 53) := ⟨by decide, fun q h => by cases (ta_53).symm.trans h; exact Or.inl (List.mem_append_right _ (List.mem_of_getElem? (i := 504) (by decide +kernel)))⟩
theorem tl_46 : t_Lok (9, 58, 31) := ⟨by decide, fun q h => by cases (ta_31).symm.trans h; exact Or.inr ⟨rfl, "TurnsHall", List.mem_append_right _ (List.mem_of_getElem? (i := 476) (by decide +kernel))⟩⟩
theorem tl_47 : t_Lok (9, 67, 32) := ⟨by decide, fun q h => by cases (ta_32).symm.trans h; exact Or.inr ⟨rfl, "TurnsHall", List.mem_append_right _ (List.mem_of_getElem? (i := 481) (by decide +kernel))⟩⟩
theorem tl_48 : t_Lok (9, 94, 77) := ⟨by decide, fun q h => by cases (ta_77).symm.trans h; exact Or.inl (List.mem_append_right _ (List.mem_of_getElem? (i := 242) (by decide +kernel)))⟩
theorem tl_49 : t_Lok (9, 101, 37) := ⟨by decide, fun q h => by cases (ta_37).symm.trans h; exact Or.inr ⟨rfl, "TurnsHall", List.mem_append_right _ (List.mem_of_getElem? (i := 251) (by decide +kernel))⟩⟩
theorem tl_50 : t_Lok (9, 105, 9) := ⟨by decide, fun q h => by cases (ta_9).symm.trans h; exact Or.inr ⟨rfl, "TurnsHall", List.mem_append_right _ (List.mem_of_getElem? (i := 287) (by decide +kernel))⟩⟩
theorem tl_51 : t_Lok (9, 109, 78) := ⟨by decide, fun q h => by cases (ta_78).symm.trans h; exact Or.inl (List.mem_append_right _ (List.mem_of_getElem? (i := 294) (by decide +kernel)))⟩
theorem tl_52 : t_Lok (9, 118, 75) := ⟨by decide, fun q h => by cases (ta_75).symm.trans h; exact Or.inl (List.mem_append_right _ (List.mem_of_getElem? (i := 302) (by decide +kernel)))⟩
theorem tl_53 : t_Lok (9, 122, 42) := ⟨by decide, fun q h => by cases (ta_42).symm.trans h; exact Or.inr ⟨rfl, "TurnsHall", List.mem_append_right _ (List.mem_of_getElem? (i := 520) (by decide +kernel))⟩⟩
theorem tl_54 : t_Lok (9, 125, 76) := ⟨by decide, fun q h => by cases (ta_76).symm.trans h; exact Or.inl (List.mem_append_right _ (List.mem_of_getElem? (i := 322) (by decide +kernel)))⟩
theorem tl_55 : t_Lok (9, 131, 45) := ⟨by decide, fun q h => by cases (ta_45).symm.trans h; exact Or.inr ⟨rfl, "TurnsHall", List.mem_append_right _ (List.mem_of_getElem? (i := 342) (by decide +kernel))⟩⟩
theorem tl_56 : t_Lok (9, 144, 44) := ⟨by decide, fun q h => by cases (ta_44).symm.trans h; exact Or.inr ⟨rfl, "TurnsHall", List.mem_append_right _ (List.mem_of_getElem? (i := 373) (by decide +kernel))⟩⟩
theorem tl_57 : t_Lok (9, 151, 8) := ⟨by decide, fun q h => by cases (ta_8).symm.trans h; exact Or.inl (List.mem_append_right _ (List.mem_of_getElem? (i := 377) (by decide +kernel)))⟩
theorem tl_58 : t_Lok (9, 166, 74) := ⟨by decide, fun q h => by cases (ta_74).symm.trans h; exact Or.inl (List.mem_append_right _ (List.mem_of_getElem? (i := 246) (by decide +kernel)))⟩
theorem tl_59 : t_Lok (9, 181, 6) := ⟨by decide, fun q h => by cases (ta_6).symm.trans h; exact Or.inl (List.mem_append_right _ (List.mem_of_getElem? (i := 399) (by decide +kernel)))⟩
theorem tl_60 : t_Lok (9, 185, 39) := ⟨by decide, fun q h => by cases (ta_39).symm.trans h; exact Or.inr ⟨rfl, "TurnsHall", List.mem_append_right _ (List.mem_of_getElem? (i := 404) (by decide +kernel))⟩⟩
theorem tl_61 : t_Lok (9, 189, 41) := ⟨by decide, fun q h => by cases (ta_41).symm.trans h; exact Or.inr ⟨rfl, "TurnsHall", List.mem_append_right _ (List.mem_of_getElem? (i := 620) (by decide +kernel))⟩⟩
theorem tl_62 : t_Lok (9, 194, 3) := ⟨by decide, fun q h => by cases (ta_3).symm.trans h; exact Or.inl (List.mem_append_right _ (List.mem_of_getElem? (i := 553) (by decide +kernel)))⟩
theorem tl_63 : t_Lok (9, 199, 14) := ⟨by decide, fun q h => by cases (ta_14).symm.trans h; exact Or.inl (List.mem_append_right _ (List.mem_of_getElem? (i := 556) (by decide +kernel)))⟩
theorem tl_64 : t_Lok (9, 204, 1) := ⟨by decide, fun q h => by cases (ta_1).symm.trans h; exact Or.inl (List.mem_append_right _ (List.mem_of_getElem? (i := 443) (by decide +kernel)))⟩
theorem tl_65 : t_Lok (9, 209, 5) := ⟨by decide, fun q h => by cases (ta_5).symm.trans h; exact Or.inl (List.mem_append_right _ (List.mem_of_getElem? (i := 573) (by decide +kernel)))⟩
theorem tl_66 : t_Lok (9, 212, 12) := ⟨by decide, fun q h => by cases (ta_12).symm.trans h; exact Or.inl (List.mem_append_right _ (List.mem_of_getElem? (i := 577) (by decide +kernel)))⟩
theorem tl_67 : t_Lok (9, 216, 4) := ⟨by decide, fun q h => by cases (ta_4).symm.trans h; exact Or.inl (List.mem_append_right _ (List.mem_of_getElem? (i := 582) (by decide +kernel)))⟩
theorem tl_68 : t_Lok (9, 219, 51) := ⟨by decide, fun q h => by cases (ta_51).symm.trans h; exact Or.inr ⟨rfl, "TurnsHall", List.mem_append_right _ (List.mem_of_getElem? (i := 508) (by decide +kernel))⟩⟩
theorem tl_69 : t_Lok (9, 223, 23) := ⟨by decide, fun q h => by cases (ta_23).symm.trans h; exact Or.inr ⟨rfl, "TurnsHall", List.mem_append_right _ (List.mem_of_getElem? (i := 409) (by decide +kernel))⟩⟩
theorem tl_70 : t_Lok (9, 226, 26) := ⟨by decide, fun q h => by cases (ta_26).symm.trans h; exact Or.inr ⟨rfl, "TurnsHall", List.mem_append_right _ (List.mem_of_getElem? (i := 606) (by decide +kernel))⟩⟩
theorem tl_71 : t_Lok (9, 229, 52) := ⟨by decide, fun q h => by cases (ta_52).symm.trans h; exact Or.inr ⟨rfl, "TurnsHall", List.mem_append_right _ (List.mem_of_getElem? (i := 615) (by decide +kernel))⟩⟩
theorem tl_72 : t_Lok (9, 234, 54) := ⟨by decide, fun q h => by cases (ta_54).symm.trans h; exact Or.inr ⟨rfl, "TurnsHall", List.mem_append_right _ (List.mem_of_getElem? (i := 626) (by decide +kernel))⟩⟩
theorem tl_73 : t_Lok (9, 240, 27) := ⟨by decide, fun q h => by cases (ta_27).symm.trans h; exact Or.inr ⟨rfl, "TurnsHall", List.mem_append_right _ (List.mem_of_getElem? (i := 595) (by decide +kernel))⟩⟩
theorem tl_74 : t_Lok (9, 264, 29) := ⟨by decide, fun q h => by cases (ta_29).symm.trans h; exact Or.inr ⟨rfl, "TurnsHall", List.mem_append_right _ (List.mem_of_getElem? (i := 435) (by decide +kernel))⟩⟩
theorem tl_75 : t_Lok (9, 270, 10) := ⟨by decide, fun q h => by cases (ta_10).symm.trans h; exact Or.inr ⟨rfl, "TurnsHall", List.mem_append_right _ (List.mem_of_getElem? (i := 453) (by decide +kernel))⟩⟩
theorem tl_76 : t_Lok (9, 275, 11) := ⟨by decide, fun q h => by cases (ta_11).symm.trans h; exact Or.inr ⟨rfl, "TurnsHall", List.mem_append_right _ (List.mem_of_getElem? (i := 494) (by decide +kernel))⟩⟩
theorem tl_77 : t_Lok (9, 278, 22) := ⟨by decide, fun q h => by cases (ta_22).symm.trans h; exact Or.inl (List.mem_append_right _ (List.mem_of_getElem? (i := 509) (by decide +kernel)))⟩
theorem tl_78 : t_Lok (13, 10, 62) := ⟨by decide, fun q h => by cases (ta_62).symm.trans h; exact Or.inl (List.mem_append_right _ (List.mem_of_getElem? (i := 471) (by decide +kernel)))⟩
theorem tl_79 : t_Lok (13, 18, 96) := ⟨by decide, fun q h => by cases (ta_96).symm.trans h; exact Or.inl (List.mem_append_right _ (List.mem_of_getElem? (i := 489) (by decide +kernel)))⟩
theorem tl_80 : t_Lok (13, 22, 70) := ⟨by decide, fun q h => by cases (ta_70).symm.trans h; exact Or.inl (List.mem_append_right _ (List.mem_of_getElem? (i := 516) (by decide +kernel)))⟩
theorem tl_81 : t_Lok (13, 26, 104) := ⟨by decide, fun q h => by cases (ta_104).symm.trans h; exact Or.inl (List.mem_append_right _ (List.mem_of_getElem? (i := 524) (by decide +kernel)))⟩
theorem tl_82 : t_Lok (13, 32, 105) := ⟨by decide, fun q h => by cases (ta_105).symm.trans h; exact Or.inl (List.mem_append_right _ (List.mem_of_getElem? (i := 527) (by decide +kernel)))⟩
theorem tl_83 : t_Lok (13, 36, 109) := ⟨by decide, fun q h => by cases (ta_109).symm.trans h; exact Or.inl (List.mem_append_right _ (List.mem_of_getElem? (i := 545) (by decide +kernel)))⟩
theorem tl_84 : t_Lok (13, 39, 110) := ⟨by decide, fun q h => by cases (ta_110).symm.trans h; exact Or.inl (List.mem_append_right _ (List.mem_of_getElem? (i := 542) (by decide +kernel)))⟩
theorem tl_85 : t_Lok (13, 43, 85) := ⟨by decide, fun q h => by cases (ta_85).symm.trans h; exact Or.inl (List.mem_append_right _ (List.mem_of_getElem? (i := 548) (by decide +kernel)))⟩
theorem tl_86 : t_Lok (13, 45, 86) := ⟨by decide, fun q h => by cases (ta_86).symm.trans h; exact Or.inl (List.mem_append_right _ (List.mem_of_getElem? (i := 578) (by decide +kernel)))⟩
theorem tl_87 : t_Lok (13, 48, 108) := ⟨by decide, fun q h => by cases (ta_108).symm.trans h; exact Or.inl (List.mem_append_right _ (List.mem_of_getElem? (i := 583) (by decide +kernel)))⟩
theorem tl_88 : t_Lok (13, 52, 106) := ⟨by decide, fun q h => by cases (ta_106).symm.trans h; exact Or.inl (List.mem_append_right _ (List.mem_of_getElem? (i := 530) (by decide +kernel)))⟩
theorem tl_89 : t_Lok (13, 56, 83) := ⟨by decide, fun q h => by cases (ta_83).symm.trans h; exact Or.inl (List.mem_append_right _ (List.mem_of_getElem? (i := 400) (by decide +kernel)))⟩
theorem tl_90 : t_Lok (13, 59, 107) := ⟨by decide, fun q h => by cases (ta_107).symm.trans h; exact Or.inl (List.mem_append_right _ (List.mem_of_getElem? (i := 533) (by decide +kernel)))⟩
theorem tl_91 : t_Lok (13, 62, 87) := ⟨by decide, fun q h => by cases (ta_87).symm.trans h; exact Or.inl (List.mem_append_right _ (List.mem_of_getElem? (i := 586) (by decide +kernel)))⟩
theorem tl_92 : t_Lok (13, 66, 91) := ⟨by decide, fun q h => by cases (ta_91).symm.trans h; exact Or.inl (List.mem_append_right _ (List.mem_of_getElem? (i := 590) (by decide +kernel)))⟩
theorem tl_93 : t_Lok (13, 69, 88) := ⟨by decide, fun q h => by cases (ta_88).symm.trans h; exact Or.inl (List.mem_append_right _ (List.mem_of_getElem? (i := 602) (by decide +kernel)))⟩
theorem tl_94 : t_Lok (13, 73, 89) := ⟨by decide, fun q h => by cases (ta_89).symm.trans h; exact Or.inl (List.mem_append_right _ (List.mem_of_getElem? (i := 611) (by decide +kernel)))⟩
theorem tl_95 : t_Lok (13, 76, 84) := ⟨by decide, fun q h => by cases (ta_84).symm.trans h; exact Or.inl (List.mem_append_right _ (List.mem_of_getElem? (i := 616) (by decide +kernel)))⟩
theorem tl_96 : t_Lok (13, 79, 90) := ⟨by decide, fun q h => by cases (ta_90).symm.trans h; exact Or.inl (List.mem_append_right _ (List.mem_of_getElem? (i := 621) (by decide +kernel)))⟩
theorem tl_97 : t_Lok (13, 83, 99) := ⟨by decide, fun q h => by cases (ta_99).symm.trans h; exact Or.inl (List.mem_append_right _ (List.mem_of_getElem? (i := 458) (by decide +kernel)))⟩
theorem tl_98 : t_Lok (13, 87, 100) := ⟨by decide, fun q h => by cases (ta_100).symm.trans h; exact Or.inl (List.mem_append_right _ (List.mem_of_getElem? (i := 463) (by decide +kernel)))⟩
theorem tl_99 : t_Lok (13, 90, 101) := ⟨by decide, fun q h => by cases (ta_101).symm.trans h; exact Or.inl (List.mem_append_right _ (List.mem_of_getElem? (i := 467) (by decide +kernel)))⟩
theorem tl_100 : t_Lok (13, 94, 63) := ⟨by decide, fun q h => by cases (ta_63).symm.trans h; exact Or.inl (List.mem_append_right _ (List.mem_of_getElem? (i := 166) (by decide +kernel)))⟩
theorem tl_101 : t_Lok (13, 98, 79) := ⟨by decide, fun q h => by cases (ta_79).symm.trans h; exact Or.inl (List.mem_append_right _ (List.mem_of_getElem? (i := 382) (by decide +kernel)))⟩
theorem tl_102 : t_Lok (13, 101, 68) := ⟨by decide, fun q h => by cases (ta_68).symm.trans h; exact Or.inl (List.mem_append_right _ (List.mem_of_getElem? (i := 170) (by decide +kernel)))⟩
theorem tl_103 : t_Lok (13, 104, 80) := ⟨by decide, fun q h => by cases (ta_80).symm.trans h; exact Or.inl (List.mem_append_right _ (List.mem_of_getElem? (i := 386) (by decide +kernel)))⟩
theorem tl_104 : t_Lok (13, 107, 112) := ⟨by decide, fun q h => by cases (ta_112).symm.trans h; exact Or.inl (List.mem_append_right _ (List.mem_of_getElem? (i := 539) (by decide +kernel)))⟩
theorem tl_105 : t_Lok (13, 111, 71) := ⟨by decide, fun q h => by cases (ta_71).symm.trans h; exact Or.inl (List.mem_append_right _ (List.mem_of_getElem? (i := 298) (by decide +kernel)))⟩
theorem tl_106 : t_Lok (13, 115, 72) := ⟨by decide, fun q h => by cases (ta_72).symm.trans h; exact Or.inl (List.mem_append_right _ (List.mem_of_getElem? (i := 368) (by decide +kernel)))⟩
theorem tl_107 : t_Lok (13, 119, 111) := ⟨by decide, fun q h => by cases (ta_111).symm.trans h; exact Or.inl (List.mem_append_right _ (List.mem_of_getElem? (i := 536) (by decide +kernel)))⟩
theorem tl_108 : t_Lok (13, 123, 95) := ⟨by decide, fun q h => by cases (ta_95).symm.trans h; exact Or.inl (List.mem_append_right _ (List.mem_of_getElem? (i := 405) (by decide +kernel)))⟩
theorem tl_109 : t_Lok (13, 126, 113) := ⟨by decide, fun q h => by cases (ta_113).symm.trans h; exact Or.inl (List.mem_append_right _ (List.mem_of_getElem? (i := 631) (by decide +kernel)))⟩
theorem tl_110 : t_Lok (13, 130, 102) := ⟨by decide, fun q h => by cases (ta_102).symm.trans h; exact Or.inl (List.mem_append_right _ (List.mem_of_getElem? (i := 486) (by decide +kernel)))⟩
theorem tl_111 : t_Lok (13, 133, 103) := ⟨by decide, fun q h => by cases (ta_103).symm.trans h; exact Or.inl (List.mem_append_right _ (List.mem_of_getElem? (i := 513) (by decide +kernel)))⟩
theorem tl_112 : t_Lok (13, 137, 81) := ⟨by decide, fun q h => by cases (ta_81).symm.trans h; exact Or.inl (List.mem_append_right _ (List.mem_of_getElem? (i := 390) (by decide +kernel)))⟩
theorem tl_113 : t_Lok (13, 141, 97) := ⟨by decide, fun q h => by cases (ta_97).symm.trans h; exact Or.inl (List.mem_append_right _ (List.mem_of_getElem? (i := 449) (by decide +kernel)))⟩
theorem tl_114 : t_Lok (13, 145, 82) := ⟨by decide, fun q h => by cases (ta_82).symm.trans h; exact Or.inl (List.mem_append_right _ (List.mem_of_getElem? (i := 394) (by decide +kernel)))⟩
set_option maxRecDepth 20000 in
theorem t_lok : ∀ f ∈ t_ct, t_Lok f := List.forall_mem_cons.mpr ⟨tl_0, List.forall_mem_cons.mpr ⟨tl_1, List.forall_mem_cons.mpr ⟨tl_2, List.forall_mem_cons.mpr ⟨tl_3, List.forall_mem_cons.mpr ⟨tl_4, List.forall_mem_cons.mpr ⟨tl_5, List.forall_mem_cons.mpr ⟨tl_6, List.forall_mem_cons.mpr ⟨tl_7, List.forall_mem_cons.mpr ⟨tl_8, List.forall_mem_cons.mpr ⟨tl_9, List.forall_mem_cons.mpr ⟨tl_10, List.forall_mem_cons.mpr ⟨tl_11, List.forall_mem_cons.mpr ⟨tl_12, List.forall_mem_cons.mpr ⟨tl_13, List.forall_mem_cons.mpr ⟨tl_14, List.forall_mem_cons.mpr ⟨tl_15, List.forall_mem_cons.mpr ⟨tl_16, List.forall_mem_cons.mpr ⟨tl_17, List.forall_mem_cons.mpr ⟨tl_18, List.forall_mem_cons.mpr ⟨tl_19, List.forall_mem_cons.mpr ⟨tl_20, List.forall_mem_cons.mpr ⟨tl_21, List.forall_mem_cons.mpr ⟨tl_22, List.forall_mem_cons.mpr ⟨tl_23, List.forall_mem_cons.mpr ⟨tl_24, List.forall_mem_cons.mpr ⟨tl_25, List.forall_mem_cons.mpr ⟨tl_26, List.forall_mem_cons.mpr ⟨tl_27, List.forall_mem_cons.mpr ⟨tl_28, List.forall_mem_cons.mpr ⟨tl_29, List.forall_mem_cons.mpr ⟨tl_30, List.forall_mem_cons.mpr ⟨tl_31, List.forall_mem_cons.mpr ⟨tl_32, List.forall_mem_cons.mpr ⟨tl_33, List.forall_mem_cons.mpr ⟨tl_34, List.forall_mem_cons.mpr ⟨tl_35, List.forall_mem_cons.mpr ⟨tl_36, List.forall_mem_cons.mpr ⟨tl_37, List.forall_mem_cons.mpr ⟨tl_38, List.forall_mem_cons.mpr ⟨tl_39, List.forall_mem_cons.mpr ⟨tl_40, List.forall_mem_cons.mpr ⟨tl_41, List.forall_mem_cons.mpr ⟨tl_42, List.forall_mem_cons.mpr ⟨tl_43, List.forall_mem_cons.mpr ⟨tl_44, List.forall_mem_cons.mpr ⟨tl_45, List.forall_mem_cons.mpr ⟨tl_46, List.forall_mem_cons.mpr ⟨tl_47, List.forall_mem_cons.mpr ⟨tl_48, List.forall_mem_cons.mpr ⟨tl_49, List.forall_mem_cons.mpr ⟨tl_50, List.forall_mem_cons.mpr ⟨tl_51, List.forall_mem_cons.mpr ⟨tl_52, List.forall_mem_cons.mpr ⟨tl_53, List.forall_mem_cons.mpr ⟨tl_54, List.forall_mem_cons.mpr ⟨tl_55, List.forall_mem_cons.mpr ⟨tl_56, List.forall_mem_cons.mpr ⟨tl_57, List.forall_mem_cons.mpr ⟨tl_58, List.forall_mem_cons.mpr ⟨tl_59, List.forall_mem_cons.mpr ⟨tl_60, List.forall_mem_cons.mpr ⟨tl_61, List.forall_mem_cons.mpr ⟨tl_62, List.forall_mem_cons.mpr ⟨tl_63, List.forall_mem_cons.mpr ⟨tl_64, List.forall_mem_cons.mpr ⟨tl_65, List.forall_mem_cons.mpr ⟨tl_66, List.forall_mem_cons.mpr ⟨tl_67, List.forall_mem_cons.mpr ⟨tl_68, List.forall_mem_cons.mpr ⟨tl_69, List.forall_mem_cons.mpr ⟨tl_70, List.forall_mem_cons.mpr ⟨tl_71, List.forall_mem_cons.mpr ⟨tl_72, List.forall_mem_cons.mpr ⟨tl_73, List.forall_mem_cons.mpr ⟨tl_74, List.forall_mem_cons.mpr ⟨tl_75, List.forall_mem_cons.mpr ⟨tl_76, List.forall_mem_cons.mpr ⟨tl_77, List.forall_mem_cons.mpr ⟨tl_78, List.forall_mem_cons.mpr ⟨tl_79, List.forall_mem_cons.mpr ⟨tl_80, List.forall_mem_cons.mpr ⟨tl_81, List.forall_mem_cons.mpr ⟨tl_82, List.forall_mem_cons.mpr ⟨tl_83, List.forall_mem_cons.mpr ⟨tl_84, List.forall_mem_cons.mpr ⟨tl_85, List.forall_mem_cons.mpr ⟨tl_86, List.forall_mem_cons.mpr ⟨tl_87, List.forall_mem_cons.mpr ⟨tl_88, List.forall_mem_cons.mpr ⟨tl_89, List.forall_mem_cons.mpr ⟨tl_90, List.forall_mem_cons.mpr ⟨tl_91, List.forall_mem_cons.mpr ⟨tl_92, List.forall_mem_cons.mpr ⟨tl_93, List.forall_mem_cons.mpr ⟨tl_94, List.forall_mem_cons.mpr ⟨tl_95, List.forall_mem_cons.mpr ⟨tl_96, List.forall_mem_cons.mpr ⟨tl_97, List.forall_mem_cons.mpr ⟨tl_98, List.forall_mem_cons.mpr ⟨tl_99, List.forall_mem_cons.mpr ⟨tl_100, List.forall_mem_cons.mpr ⟨tl_101, List.forall_mem_cons.mpr ⟨tl_102, List.forall_mem_cons.mpr ⟨tl_103, List.forall_mem_cons.mpr ⟨tl_104, List.forall_mem_cons.mpr ⟨tl_105, List.forall_mem_cons.mpr ⟨tl_106, List.forall_mem_cons.mpr ⟨tl_107, List.forall_mem_cons.mpr ⟨tl_108, List.forall_mem_cons.mpr ⟨tl_109, List.forall_mem_cons.mpr ⟨tl_110, List.forall_mem_cons.mpr ⟨tl_111, List.forall_mem_cons.mpr ⟨tl_112, List.forall_mem_cons.mpr ⟨tl_113, List.forall_mem_cons.mpr ⟨tl_114, fun _ h => absurd h List.not_mem_nil⟩⟩⟩⟩⟩⟩⟩⟩⟩⟩⟩⟩⟩⟩⟩⟩⟩⟩⟩⟩⟩⟩⟩⟩⟩⟩⟩⟩⟩⟩⟩⟩⟩⟩⟩⟩⟩⟩⟩⟩⟩⟩⟩⟩⟩⟩⟩⟩⟩⟩⟩⟩⟩⟩⟩⟩⟩⟩⟩⟩⟩⟩⟩⟩⟩⟩⟩⟩⟩⟩⟩⟩⟩⟩⟩⟩⟩⟩⟩⟩⟩⟩⟩⟩⟩⟩⟩⟩⟩⟩⟩⟩⟩⟩⟩⟩⟩⟩⟩⟩⟩⟩⟩⟩⟩⟩⟩⟩⟩⟩⟩⟩⟩⟩⟩
end
section
/-! ===== the small machine's things, as cells of the heap ===== -/
/-- where the things lie, the kinds, the rows' kinds, which cells may be written, the script's cell, its length, its numbers -/
abbrev tE : Type := (Nat → Nat) × va_G × (Nat → ClassId) × (Nat → Prop) × Nat × Nat × (Nat → Int32)
def t_cv (g : tE) (v : Value) : Value := match v with
  | .ref k => .ref (g.1 k)
  | v => v
def t_ce (g : tE) (h : tH) (k : Nat) : va_E := match t_ob k with
  | some ci => .inr (ci, (t_ft ci).mapIdx (fun sl ty => t_cv g (t_fv h ci sl ty k)))
  | none => match t_ar k with
    | some (1, n) => .inl (g.2.2.1 1, n, .inl (h.1 k))
    | some (2, n) => .inl (g.2.2.1 2, n, .inr (.inl (h.2.1 k)))
    | some (3, n) => .inl (g.2.2.1 3, n, .inr (.inr (.inr (.inr (fun i => some (g.1 (40 + i)))))))
    | some (_, n) => .inl (g.2.2.1 0, n, .inl (h.1 k))
    | none => .inl (g.2.2.1 0, 0, .inl (h.1 k))
def t_ids : List Nat := (List.range 87).filter (fun k => (t_ob k).isSome || (t_ar k).isSome)
/-- the row 35, while it is there -/
def t_xc (g : tE) (h : tH) : va_W := if h.1 36 0 = 1 then [(g.1 35, .inl (g.2.2.1 0, 4, .inl (h.1 35)))] else []
def th_ws (g : tE) (h : tH) : va_W := t_ids.map (fun k => (g.1 k, t_ce g h k)) ++ t_xc g h
def t_tys (g : tE) : List (ClassId × FieldType) := [(g.2.2.1 0, .int), (g.2.2.1 3, .object "TurnsHall$Drawing")]
theorem t_ob_big {k : Nat} (h : 87 ≤ k) : t_ob k = none := by
  unfold t_ob
  rw [if_neg (by omega), if_neg (by omega), if_neg (by omega), if_neg (by omega), if_neg (by omega), if_neg (by omega), if_neg (by omega)]
theorem t_ar_big {k : Nat} (h : 87 ≤ k) : t_ar k = none := by
  unfold t_ar
  rw [if_neg (by omega), if_neg (by omega), if_neg (by omega), if_neg (by omega), if_neg (by omega)]
theorem t_apart : ∀ k, k < 87 → (t_ar k).isSome = true → t_ob k = none := by decide +kernel
theorem t_ids_ob {k ci : Nat} (h : t_ob k = some ci) : k ∈ t_ids := by
  have hk : k < 87 := Nat.lt_of_not_le fun q => by rw [t_ob_big q] at h; cases h
  exact List.mem_filter.mpr ⟨List.mem_range.mpr hk, by rw [h]; rfl⟩
theorem t_ids_ar {k : Nat} {x : Nat × Nat} (h : t_ar k = some x) : k ∈ t_ids := by
  have hk : k < 87 := Nat.lt_of_not_le fun q => by rw [t_ar_big q] at h; cases h
  exact List.mem_filter.mpr ⟨List.mem_range.mpr hk, by rw [h]; simp⟩
theorem t_ar_ob {k : Nat} {x : Nat × Nat} (h : t_ar k = some x) : t_ob k = none := by
  have hk : k < 87 := Nat.lt_of_not_le fun q => by rw [t_ar_big q] at h; cases h
  exact t_apart k hk (by rw [h]; rfl)
theorem t_ids_nd : va_nd t_ids = true := by decide +kernel
theorem t_ids_33 : ∀ k, k ∈ t_ids → k ≠ 33 ∧ k ≠ 34 := by decide +kernel
theorem t_ids_35 : ∀ k, k ∈ t_ids → k ≠ 35 ∧ k ≠ 36 := by decide +kernel
theorem t_ids_lt {k : Nat} (h : k ∈ t_ids) : k < 87 := List.mem_range.mp (List.mem_filter.mp h).1
theorem t_ids_4 : ∀ k, k ∈ t_ids → t_ob k = some 4 → k = 11 := by decide +kernel
theorem t_ft_4 : ∀ ci, ci < 8 → ∀ ty ∈ t_ft ci, ty = 4 → ci = 4 := by decide +kernel
theorem th_ws_get (g : tE) (h : tH) {k : Nat} (hk : k ∈ t_ids) : ∃ q0 : Nat, t_ids[q0]? = some k ∧ (th_ws g h)[q0]? = some (g.1 k, t_ce g h k) := by
  obtain ⟨q0, hq⟩ := List.getElem?_of_mem hk
  refine ⟨q0, hq, ?_⟩
  unfold th_ws
  rw [List.getElem?_append_left (by rw [List.length_map]; exact (List.getElem?_eq_some_iff.mp hq).1), List.getElem?_map, hq]
  rfl
theorem th_ws_x (g : tE) {h : tH} (hf : h.1 36 0 = 1) : (th_ws g h)[t_ids.length]? = some (g.1 35, .inl (g.2.2.1 0, 4, .inl (h.1 35))) := by
  unfold th_ws t_xc
  rw [List.getElem?_append_right (by rw [List.length_map]; exact Nat.le_refl _), List.length_map, Nat.sub_self, if_pos hf]
  rfl
theorem th_ws_set {g : tE} {h h' : tH} {k q0 : Nat} {e : va_E} (hq : t_ids[q0]? = some k) (he : e = t_ce g h' k) (ho : ∀ j ∈ t_ids, j ≠ k → t_ce g h' j = t_ce g h j) (hx : t_xc g h' = t_xc g h) : (th_ws g h).set q0 (g.1 k, e) = th_ws g h' := by
  refine List.ext_getElem? fun i => ?_
  have hl : q0 < t_ids.length := (List.getElem?_eq_some_iff.mp hq).1
  have hl2 : q0 < (th_ws g h).length := by
    unfold th_ws
    rw [List.length_append, List.length_map]
    omega
  by_cases hi : q0 = i
  · subst hi
    rw [List.getElem?_set_self hl2]
    unfold th_ws
    rw [List.getElem?_append_left (by rw [List.length_map]; exact hl), List.getElem?_map, hq, he]
    rfl
  · rw [List.getElem?_set_ne hi]
    unfold th_ws
    by_cases h9 : i < t_ids.length
    · rw [List.getElem?_append_left (by rw [List.length_map]; exact h9), List.getElem?_append_left (by rw [List.length_map]; exact h9), List.getElem?_map, List.getElem?_map]
      cases hj : t_ids[i]? with
      | none => rfl
      | some j =>
        have hne : j ≠ k := fun z => hi (va_nd_inj t_ids t_ids_nd q0 i k hq (by rw [← z]; exact hj))
        simp only [Option.map_some]
        rw [ho j (List.mem_of_getElem? hj) hne]
    · rw [List.getElem?_append_right (by rw [List.length_map]; omega), List.getElem?_append_right (by rw [List.length_map]; omega), hx]
      rfl
theorem t_I_ne {h : tH} {k i j : Nat} {x : Int32} (hj : j ≠ k) : (t_I h k i x).1 j = h.1 j := by
  funext b
  show (if j = k ∧ b = i then x else h.1 j b) = h.1 j b
  rw [if_neg fun z => hj z.1]
theorem t_L_ne {h : tH} {k i j : Nat} {x : Int64} (hj : j ≠ k) : (t_L h k i x).2.1 j = h.2.1 j := by
  funext b
  show (if j = k ∧ b = i then x else h.2.1 j b) = h.2.1 j b
  rw [if_neg fun z => hj z.1]
theorem t_I_eq {h : tH} {k i : Nat} {x : Int32} : (t_I h k i x).1 k = upd (h.1 k) i x := by
  funext b
  show (if k = k ∧ b = i then x else h.1 k b) = if b = i then x else h.1 k b
  by_cases hb : b = i
  · rw [if_pos ⟨rfl, hb⟩, if_pos hb]
  · rw [if_neg fun z => hb z.2, if_neg hb]
theorem t_L_eq {h : tH} {k i : Nat} {x : Int64} : (t_L h k i x).2.1 k = vp_updL (h.2.1 k) i x := by
  funext b
  show (if k = k ∧ b = i then x else h.2.1 k b) = if b = i then x else h.2.1 k b
  by_cases hb : b = i
  · rw [if_pos ⟨rfl, hb⟩, if_pos hb]
  · rw [if_neg fun z => hb z.2, if_neg hb]
theorem t_fv_I {h : tH} {k i j ci sl ty : Nat} {x : Int32} (hj : j ≠ k) : t_fv (t_I h k i x) ci sl ty j = t_fv h ci sl ty j := by
  unfold t_fv
  split <;> first | rfl | (rw [t_I_ne hj])
theorem t_fv_L {h : tH} {k i j ci sl ty : Nat} {x : Int64} (hj : j ≠ k) : t_fv (t_L h k i x) ci sl ty j = t_fv h ci sl ty j := by
  unfold t_fv
  split <;> first | rfl | (rw [t_L_ne hj])
theorem t_ce_I {g : tE} {h : tH} {k i j : Nat} {x : Int32} (hj : j ≠ k) : t_ce g (t_I h k i x) j = t_ce g h j := by
  unfold t_ce
  simp only [t_fv_I hj, t_I_ne hj]
  rfl
theorem t_ce_L {g : tE} {h : tH} {k i j : Nat} {x : Int64} (hj : j ≠ k) : t_ce g (t_L h k i x) j = t_ce g h j := by
  unfold t_ce
  simp only [t_fv_L hj, t_L_ne hj]
  rfl
theorem t_xc_I {g : tE} {h : tH} {k i : Nat} {x : Int32} (hk : k ∈ t_ids) : t_xc g (t_I h k i x) = t_xc g h := by
  have h1 := t_ids_35 k hk
  unfold t_xc
  rw [t_I_ne (show (36 : Nat) ≠ k by omega), t_I_ne (show (35 : Nat) ≠ k by omega)]
theorem t_ce_i {g : tE} {h : tH} {k : Nat} (hk : k ∈ t_ids) {h' : tH} (e : ∀ j, j ≠ 35 → j ≠ 36 → h'.1 j = h.1 j) (e2 : h'.2.1 = h.2.1) : t_ce g h' k = t_ce g h k := by
  have h1 := t_ids_35 k hk
  have h2 := e k h1.1 h1.2
  unfold t_ce
  have hf : ∀ ci sl ty, t_fv h' ci sl ty k = t_fv h ci sl ty k := fun ci sl ty => by
    unfold t_fv
    rw [h2, e2]
  simp only [hf, h2, e2]
/-- the row 35 is written -/
theorem th_ws_xs {g : tE} {h : tH} (hf : h.1 36 0 = 1) {i : Nat} {x : Int32} : (th_ws g h).set t_ids.length (g.1 35, .inl (g.2.2.1 0, 4, .inl (upd (h.1 35) i x))) = th_ws g (t_I h 35 i x) := by
  unfold th_ws t_xc
  rw [t_I_ne (show (36 : Nat) ≠ 35 by omega), if_pos hf, if_pos hf, List.set_append_right _ _ (by rw [List.length_map]; exact Nat.le_refl _), List.length_map, Nat.sub_self, t_I_eq]
  refine congrArg (· ++ _) (List.map_congr_left fun k hk => ?_)
  have h1 := t_ids_35 k hk
  rw [t_ce_I (by omega)]
/-- an object's cell, when one slot of it is written -/
theorem t_ce_set {g : tE} {h h' : tH} {k ci sl : Nat} {v : Value} (ho : t_ob k = some ci) (hs : ∀ ty, (t_ft ci)[sl]? = some ty → v = t_cv g (t_fv h' ci sl ty k)) (hr : ∀ i ty, i ≠ sl → (t_ft ci)[i]? = some ty → t_fv h' ci i ty k = t_fv h ci i ty k) :
    (.inr (ci, ((t_ft ci).mapIdx (fun sl ty => t_cv g (t_fv h ci sl ty k))).set sl v) : va_E) = t_ce g h' k := by
  unfold t_ce
  rw [ho]
  dsimp only
  refine congrArg (fun l => (Sum.inr (ci, l) : va_E)) ?_
  refine List.ext_getElem? fun i => ?_
  rw [List.getElem?_mapIdx]
  by_cases hi : sl = i
  · subst hi
    cases ht : (t_ft ci)[sl]? with
    | none =>
      have hl : ((t_ft ci).mapIdx (fun sl ty => t_cv g (t_fv h ci sl ty k))).length ≤ sl := by
        rw [List.length_mapIdx]
        exact List.getElem?_eq_none_iff.mp ht
      rw [List.getElem?_eq_none_iff.mpr (by rw [List.length_set]; exact hl)]
      rfl
    | some ty =>
      have hl : sl < ((t_ft ci).mapIdx (fun sl ty => t_cv g (t_fv h ci sl ty k))).length := by
        rw [List.length_mapIdx]
        exact (List.getElem?_eq_some_iff.mp ht).1
      rw [List.getElem?_set_self hl, Option.map_some, hs ty ht]
  · rw [List.getElem?_set_ne hi, List.getElem?_mapIdx]
    cases ht : (t_ft ci)[i]? with
    | none => rfl
    | some ty => rw [Option.map_some, Option.map_some, hr i ty (fun z => hi z.symm) ht]
/-! the cells of a frame -/
def th_set (v : Value) : Bool := match v with
  | .float _ => false
  | _ => true
def t_lr (g : tE) (ls : List Value) (lsA : Array Slot) (nL : Nat) : Prop := lsA.size = nL ∧ ls.length = nL ∧ lv_wf lsA ∧ ∀ (i : Nat) (v : Value), ls[i]? = some v → th_set v = true → lsA[i]? = some (.val (t_cv g v))
theorem t_lr_at {g : tE} {ls : List Value} {lsA : Array Slot} {nL i : Nat} {v : Value} (hl : t_lr g ls lsA nL) (h : ls[i]? = some v) (hs : th_set v = true) : lsA[i]? = some (.val (t_cv g v)) := hl.2.2.2 i v h hs
def t_ll (g : tE) (ls : List Value) : List (Nat × Value) := (List.range ls.length).filterMap (fun i => match ls[i]? with
  | some v => if th_set v = true then some (i, t_cv g v) else none
  | none => none)
theorem t_ll_in {g : tE} {ls : List Value} {i : Nat} {v : Value} (h : ls[i]? = some v) (hs : th_set v = true) : (i, t_cv g v) ∈ t_ll g ls :=
  List.mem_filterMap.mpr ⟨i, List.mem_range.mpr (List.getElem?_eq_some_iff.mp h).1, by rw [h]; simp only [hs, if_true]⟩
theorem t_ll_of {g : tE} {ls : List Value} {q : Nat × Value} (h : q ∈ t_ll g ls) : ∃ v, ls[q.1]? = some v ∧ th_set v = true ∧ q.2 = t_cv g v := by
  obtain ⟨i, -, h2⟩ := List.mem_filterMap.mp h
  cases hv : ls[i]? with
  | none => rw [hv] at h2; cases h2
  | some v =>
    rw [hv] at h2
    dsimp only at h2
    split at h2
    · next hs => cases h2; exact ⟨v, hv, hs, rfl⟩
    · cases h2
theorem t_lr_has {g : tE} {ls : List Value} {lsA : Array Slot} {nL : Nat} (hl : t_lr g ls lsA nL) : lv_has lsA nL (t_ll g ls) := by
  refine ⟨hl.1, hl.2.2.1, fun q hq => ?_⟩
  obtain ⟨v, h1, h2, h3⟩ := t_ll_of hq
  rw [h3]
  exact hl.2.2.2 _ _ h1 h2
theorem t_cv_cat (g : tE) (v : Value) : (t_cv g v).category = v.category := by cases v <;> rfl
theorem t_nl_cat {ls : List Value} {i j : Nat} {v : Value} (hn : t_nl ls i = true) (hj : j + 1 = i) (h : ls[j]? = some v) : ¬ v.category = 2 := by
  subst hj
  unfold t_nl at hn
  dsimp only at hn
  rw [h] at hn
  simpa using hn
theorem t_lr_st1 {g : tE} {ls : List Value} {lsA' : Array Slot} {nL i : Nat} {c w : Value} (hn : t_nl ls i = true) (hlen : ls.length = nL) (hw : th_set w = true → c = t_cv g w)
    (h : lv_has lsA' nL ((i, c) :: (t_ll g ls).filter (fun q => !(q.1 == i) && !(q.1 + 1 == i && q.2.category == 2)))) : t_lr g (ls.set i w) lsA' nL := by
  refine ⟨h.1, by rw [List.length_set]; exact hlen, h.2.1, fun j v hv hs => ?_⟩
  by_cases hj : i = j
  · subst hj
    have hl : i < ls.length := by
      have := (List.getElem?_eq_some_iff.mp hv).1
      rwa [List.length_set] at this
    rw [List.getElem?_set_self hl] at hv
    cases hv
    rw [← hw hs]
    exact h.2.2 (i, c) List.mem_cons_self
  · rw [List.getElem?_set_ne hj] at hv
    refine h.2.2 (j, t_cv g v) (List.mem_cons_of_mem _ (List.mem_filter.mpr ⟨t_ll_in hv hs, ?_⟩))
    have h1 : (j == i) = false := by simp; exact fun z => hj z.symm
    simp only [h1, Bool.not_false, Bool.true_and]
    by_cases h2 : j + 1 = i
    · have h3 := t_nl_cat hn h2 hv
      simp [t_cv_cat, h3]
    · simp [h2]
theorem t_lr_st2 {g : tE} {ls : List Value} {lsA' : Array Slot} {nL i : Nat} {c w : Value} (hn : t_nl ls i = true) (hlen : ls.length = nL) (hw : th_set w = true → c = t_cv g w)
    (h : lv_has lsA' nL ((i, c) :: (t_ll g ls).filter (fun q => !(q.1 == i) && (!(q.1 == i + 1) && !(q.1 + 1 == i && q.2.category == 2))))) : t_lr g ((ls.set i w).set (i + 1) (.float 0)) lsA' nL := by
  refine ⟨h.1, by rw [List.length_set, List.length_set]; exact hlen, h.2.1, fun j v hv hs => ?_⟩
  by_cases hj1 : i + 1 = j
  · subst hj1
    by_cases hl : i + 1 < (ls.set i w).length
    · rw [List.getElem?_set_self hl] at hv
      cases hv
      cases hs
    · rw [List.getElem?_eq_none_iff.mpr (by rw [List.length_set]; omega)] at hv
      cases hv
  · rw [List.getElem?_set_ne hj1] at hv
    by_cases hj : i = j
    · subst hj
      have hl : i < ls.length := by
        have := (List.getElem?_eq_some_iff.mp hv).1
        rwa [List.length_set] at this
      rw [List.getElem?_set_self hl] at hv
      cases hv
      rw [← hw hs]
      exact h.2.2 (i, c) List.mem_cons_self
    · rw [List.getElem?_set_ne hj] at hv
      refine h.2.2 (j, t_cv g v) (List.mem_cons_of_mem _ (List.mem_filter.mpr ⟨t_ll_in hv hs, ?_⟩))
      have h1 : (j == i) = false := by simp; exact fun z => hj z.symm
      have h1' : (j == i + 1) = false := by simp; exact fun z => hj1 z.symm
      simp only [h1, h1', Bool.not_false, Bool.true_and]
      by_cases h2 : j + 1 = i
      · have h3 := t_nl_cat hn h2 hv
        simp [t_cv_cat, h3]
      · simp [h2]
/-- the cells of a frame as a method begins -/
theorem t_sl_in {g : tE} : ∀ (vs : List Value) (k i : Nat) (v : Value), (t_sl vs)[i]? = some v → th_set v = true → (k + i, t_cv g v) ∈ lv_args k (vs.map (t_cv g))
  | [], k, i, v, h, _ => by simp [t_sl] at h
  | w :: vs, k, i, v, h, hs => by
    unfold t_sl at h
    simp only [List.map_cons, lv_args, t_cv_cat]
    by_cases hc : w.category = 2
    · rw [if_pos hc] at h ⊢
      match i, h with
      | 0, h => cases h; exact List.mem_cons_self
      | 1, h => cases h; cases hs
      | i + 2, h =>
        have h2 := t_sl_in (g := g) vs (k + 2) i v h hs
        exact List.mem_cons_of_mem _ (by rw [show k + (i + 2) = k + 2 + i by omega]; exact h2)
    · rw [if_neg hc] at h ⊢
      match i, h with
      | 0, h => cases h; exact List.mem_cons_self
      | i + 1, h =>
        have h2 := t_sl_in (g := g) vs (k + 1) i v h hs
        exact List.mem_cons_of_mem _ (by rw [show k + (i + 1) = k + 1 + i by omega]; exact h2)
theorem t_sl_len (g : tE) : ∀ vs : List Value, (lg_sl (vs.map (t_cv g))).length = (t_sl vs).length
  | [] => rfl
  | w :: vs => by
    have h := t_sl_len g vs
    unfold t_sl
    unfold lg_sl at h ⊢
    rw [List.map_cons, List.flatMap_cons, List.length_append, h, t_cv_cat]
    by_cases hc : w.category = 2
    · rw [if_pos hc, if_pos hc]; simp; omega
    · rw [if_neg hc, if_neg hc]; simp; omega
theorem t_lr_entry {g : tE} {vs : List Value} {n : Nat} (hn : (t_sl vs).length ≤ n) : t_lr g (t_ini vs n) ((lg_sl (vs.map (t_cv g)) ++ List.replicate (n - (lg_sl (vs.map (t_cv g))).length) Slot.unset).toArray) n := by
  have h := lv_entry (vs.map (t_cv g)) (n := n) (by rw [t_sl_len]; exact hn)
  refine ⟨h.1, by unfold t_ini; rw [List.length_append, List.length_replicate]; omega, h.2.1, fun i v hv hs => ?_⟩
  unfold t_ini at hv
  by_cases hi : i < (t_sl vs).length
  · rw [List.getElem?_append_left hi] at hv
    have h2 := h.2.2 _ (t_sl_in (g := g) vs 0 i v hv hs)
    rwa [show (0 + i) = i by omega] at h2
  · rw [List.getElem?_append_right (by omega)] at hv
    have := List.eq_of_mem_replicate (List.mem_of_getElem? hv)
    subst this
    cases hs
end
section
def t_str : List (String × Nat × String) := [(RX9, 92, "there are too few points"), (RX9, 177, "there are as many drawings as there can be"), (RX9, 171, "there is no such drawing"), (RX9, 175, "there is no such point"), (RX9, 129, "two of the points are the same"), (RX9, 142, "both points are the same"), (RX9, 179, "the drawing has no numbers"), (RX9, 53, "a number is out of its range"), (RX9, 64, "the shelf is full, or the point is on a place or a line of others"), (RX9, 273, "the segment is not in a triangulation"), (RX9, 289, "the segment cannot be flipped"), (RX9, 192, "a place is not below 0"), (RX9, 238, "the set has a point that there is not"), (RX9, 232, "there is no such level")]
end
section
/-! ===== what holds while a method of this claim runs ===== -/
def t_xn (E : Nat) : String := match E with
  | 0 => "java/lang/IllegalArgumentException"
  | 1 => "java/lang/IllegalStateException"
  | _ => "java/lang/IndexOutOfBoundsException"
/-- of the machine and its heap -/
def t_En (g : tE) (U : State) (H : Heap) : Prop :=
  va_K g.2.1 t_cls (t_tys g) U ∧ (∀ w ∈ lw_tbl, t_gw w = true → va_Nw w U) ∧ (∀ q ∈ t_str, ∃ sa, vk_R q.1 q.2.1 q.2.2 sa U) ∧
  vx_Zq Bundle.tN "UNASSIGNED_STACK" Bundle.steD g.2.2.2.1 U H ∧ vx_Zq Bundle.tN "SUPPRESSED_SENTINEL" Bundle.listD g.2.2.2.1 U H ∧
  va_X g.2.2.2.2.1 g.2.2.2.2.2.1 g.2.2.2.2.2.2 U H ∧ (∀ E1 E2, E1 < 3 → E2 < 3 → E1 ≠ E2 → va_Nc (t_xn E1) (t_xn E2) U) ∧ ∀ args, (Cond.arrayClass .int).before args U = true
/-- of the places -/
def t_Gd (g : tE) : Prop := ¬ g.2.2.2.1 g.2.2.2.2.1 ∧ g.1 33 = g.2.2.2.2.1 ∧ g.2.2.2.2.2.1 ≤ 3072 ∧ (∀ i j, i ∈ t_ids → j ∈ t_ids → g.1 i = g.1 j → i = j) ∧ ∀ i, i ∈ t_ids → g.2.2.2.1 (g.1 i)
/-- the heap holds the small machine's things -/
def t_Wd (g : tE) (h : tH) (H : Heap) : Prop := va_P g.2.1 t_cls (th_ws g h) H ∧ h.1 34 0 = Int32.ofNat g.2.2.2.2.2.1 ∧ (∀ j : Nat, j < g.2.2.2.2.2.1 → h.1 33 j = g.2.2.2.2.2.2 j) ∧ (h.1 36 0 = 1 → (∀ i ∈ t_ids, g.1 i ≠ g.1 35) ∧ g.2.2.2.1 (g.1 35))
theorem t_gw_on {w : Cond} (h : t_gw w = true) : w.onTables = true := by
  unfold t_gw at h
  rw [Bool.and_eq_true] at h
  exact h.1
theorem t_En.word {g : tE} {U : State} {H : Heap} (h : t_En g U H) {w : Cond} (hw : w ∈ lw_tbl) (hg : t_gw w = true) {args : Array Value} : w.before args U = true := va_Nw.use (t_gw_on hg) (h.2.1 w hw hg)
theorem t_gw_warm {w : Cond} (hg : t_gw w = true) {s U : State} (hW : s.WarmedH U.vm) (h : va_Nw w s) : va_Nw w U := by
  unfold t_gw at hg
  rw [Bool.and_eq_true, Bool.or_eq_true] at hg
  rcases hg.2 with h1 | h1
  · exact va_Nw.of hg.1 (word_at (a' := #[]) hW (good_of_word h1) (va_Nw.use (A := #[]) hg.1 h))
  · cases w <;> first | exact va_Nw.warmF hW h | exact va_Nw.warmM hW h | exact va_Nw.warmC hW h | exact va_tabs rfl (rfl : (s.setVm U.vm).vm = U.vm) (by rw [Cond.declares_setVm hW.alike]; exact h) | (simp at h1; done)
theorem t_En.moved {g : tE} {u U : State} {H H1 : Heap} (h : t_En g u H) (hG : t_Gd g) (hW : u.WarmedH U.vm) (hk : ∀ q : Nat, q < H.size → ¬ g.2.2.2.1 q → H1[q]? = H[q]?) : t_En g U H1 := by
  obtain ⟨h1, h2, h3, h4, h5, h6, h7, h8⟩ := h
  refine ⟨va_K.moved hW.alike h1, fun w hw hg => t_gw_warm hg hW (h2 w hw hg), fun q hq => ?_, (vx_Zq.moved hW.alike h4).kept hk, (vx_Zq.moved hW.alike h5).kept hk, ?_, fun E1 E2 a b c => va_Nc.moved hW.alike (h7 E1 E2 a b c), fun args => word_at (a' := args) hW (Or.inr ⟨_, rfl⟩) (h8 args)⟩
  · obtain ⟨sa, hs⟩ := h3 q hq
    exact ⟨sa, vk_R.warm hW hs⟩
  · obtain ⟨scr, e1, e2, e3, e4, e5⟩ := h6
    exact ⟨scr, by rw [hk _ (Array.getElem?_eq_some_iff.mp e1).1 hG.1]; exact e1, State.isArrayOf_alike hW.alike e2, e3, e4, e5⟩
theorem t_ws_D {g : tE} (hG : t_Gd g) {h : tH} {H : Heap} (hW : t_Wd g h H) : va_D g.2.2.2.1 (th_ws g h) := by
  have key : ∀ (i : Nat) (p : Nat × va_E), (th_ws g h)[i]? = some p → (∃ k, t_ids[i]? = some k ∧ p.1 = g.1 k) ∨ (i = t_ids.length ∧ h.1 36 0 = 1 ∧ p.1 = g.1 35) := by
    intro i p hp
    unfold th_ws at hp
    by_cases h9 : i < t_ids.length
    · rw [List.getElem?_append_left (by rw [List.length_map]; exact h9), List.getElem?_map] at hp
      cases hk : t_ids[i]? with
      | none => rw [hk] at hp; cases hp
      | some k => rw [hk] at hp; cases hp; exact Or.inl ⟨k, rfl, rfl⟩
    · rw [List.getElem?_append_right (by rw [List.length_map]; omega), List.length_map] at hp
      unfold t_xc at hp
      split at hp
      · next hf =>
        have h8 : i - t_ids.length < 1 := (List.getElem?_eq_some_iff.mp hp).1
        rw [show i - t_ids.length = 0 by omega] at hp
        cases hp
        exact Or.inr ⟨by omega, hf, rfl⟩
      · cases hp
  refine ⟨fun i j p q hi hj hpq => ?_, fun k q hk => ?_⟩
  · rcases key i p hi with ⟨a, a1, a2⟩ | ⟨a1, a3, a2⟩
    · rcases key j q hj with ⟨b, b1, b2⟩ | ⟨b1, b3, b2⟩
      · have hab : a = b := hG.2.2.2.1 a b (List.mem_of_getElem? a1) (List.mem_of_getElem? b1) (by rw [← a2, ← b2]; exact hpq)
        subst hab
        exact va_nd_inj t_ids t_ids_nd i j a a1 b1
      · exact absurd (by rw [← a2, ← b2]; exact hpq) ((hW.2.2.2 b3).1 a (List.mem_of_getElem? a1))
    · rcases key j q hj with ⟨b, b1, b2⟩ | ⟨b1, b3, b2⟩
      · exact absurd (by rw [← a2, ← b2]; exact hpq.symm) ((hW.2.2.2 a3).1 b (List.mem_of_getElem? b1))
      · omega
  · rcases key k q hk with ⟨a, a1, a2⟩ | ⟨a1, a3, a2⟩
    · rw [a2]
      exact hG.2.2.2.2 a (List.mem_of_getElem? a1)
    · rw [a2]
      exact (hW.2.2.2 a3).2
/-- a method's frame: what the machine says of it -/
def t_Cx (g : tE) (q : tM) (p : Program) (s : State) (m : MethodId) (meth : Method) (c : Code) : Prop :=
  p.tables.exec = Jvm.exec ∧ c.code = tm_by q ∧ c.maxLocals = tm_ml q ∧ s.vm.findClass (t_cn (tm_oc q)) = some m.cls ∧ meth.locks = false ∧ meth.sig.returnType = tm_rt q ∧ c.exceptionTable.toList = tableOf (tm_hh q) ∧ t_En g s s.heap ∧ t_Gd g ∧ ∀ x : Nat, s.heap.size ≤ x → g.2.2.2.1 x
theorem t_ar_ty {k : Nat} {p : Nat × Nat} (ha : t_ar k = some p) : p.1 = 0 ∨ p.1 = 3 := by
  have hh : ∀ k, k < 87 → ((t_ar k).all fun p => p.1 == 0 || p.1 == 3) = true := by decide +kernel
  have hk : k < 87 := Nat.lt_of_not_le fun q => by rw [t_ar_big q] at ha; cases ha
  have := hh k hk
  rw [ha] at this
  simpa using this
theorem t_ai_c {h : tH} {k : Nat} {i : Int32} (hi : t_in (t_ai h k) i) : (k = 33 ∧ vp_in i (h.1 34 0).toNatClampNeg) ∨ (k = 35 ∧ h.1 36 0 = 1 ∧ vp_in i 4) ∨ (k ≠ 33 ∧ ∃ n, t_ar k = some (0, n) ∧ vp_in i n) := by
  obtain ⟨n, e, hv⟩ := hi
  unfold t_ai at e
  split at e
  · next hk => cases e; exact Or.inl ⟨hk, hv⟩
  · next hk =>
    refine Or.inr ?_
    split at e
    · next h9 =>
      split at e
      · next hf => cases e; exact Or.inl ⟨h9, hf, hv⟩
      · cases e
    · refine Or.inr ⟨hk, ?_⟩
      split at e
      · next n' ha => cases e; exact ⟨_, ha, hv⟩
      · cases e
theorem t_bo_c {k : Nat} {i : Int32} (hi : t_in (t_bo k) i) : False := by
  obtain ⟨n, e, hv⟩ := hi
  unfold t_bo at e
  split at e
  · next n' ha => have := t_ar_ty ha; simp at this
  · cases e
theorem t_lo_c {k : Nat} {i : Int32} (hi : t_in (t_lo k) i) : False := by
  obtain ⟨n, e, hv⟩ := hi
  unfold t_lo at e
  split at e
  · next n' ha => have := t_ar_ty ha; simp at this
  · cases e
theorem t_ro_c {k : Nat} {i : Int32} (hi : t_in (t_ro k) i) : ∃ n, t_ar k = some (3, n) ∧ vp_in i n := by
  obtain ⟨n, e, hv⟩ := hi
  unfold t_ro at e
  split at e
  · next n' ha => cases e; exact ⟨_, ha, hv⟩
  · cases e
theorem t_ce_o {g : tE} {h : tH} {k ci : Nat} (ho : t_ob k = some ci) : t_ce g h k = .inr (ci, (t_ft ci).mapIdx (fun sl ty => t_cv g (t_fv h ci sl ty k))) := by
  unfold t_ce
  rw [ho]
theorem t_ce_0 {g : tE} {h : tH} {k n : Nat} (ha : t_ar k = some (0, n)) : t_ce g h k = .inl (g.2.2.1 0, n, .inl (h.1 k)) := by
  unfold t_ce
  rw [t_ar_ob ha, ha]
  rfl
theorem t_ce_1 {g : tE} {h : tH} {k n : Nat} (ha : t_ar k = some (1, n)) : t_ce g h k = .inl (g.2.2.1 1, n, .inl (h.1 k)) := by
  unfold t_ce
  rw [t_ar_ob ha, ha]
  rfl
theorem t_ce_2 {g : tE} {h : tH} {k n : Nat} (ha : t_ar k = some (2, n)) : t_ce g h k = .inl (g.2.2.1 2, n, .inr (.inl (h.2.1 k))) := by
  unfold t_ce
  rw [t_ar_ob ha, ha]
  rfl
theorem t_ce_3 {g : tE} {h : tH} {k n : Nat} (ha : t_ar k = some (3, n)) : t_ce g h k = .inl (g.2.2.1 3, n, .inr (.inr (.inr (.inr (fun i => some (g.1 (40 + i))))))) := by
  unfold t_ce
  rw [t_ar_ob ha, ha]
  rfl
theorem t_Wd_I {g : tE} {h : tH} {H H1 : Heap} {k i : Nat} {x : Int32} (hW : t_Wd g h H) (hk : k ∈ t_ids) (hP : va_P g.2.1 t_cls (th_ws g (t_I h k i x)) H1) : t_Wd g (t_I h k i x) H1 := by
  obtain ⟨h3, h4⟩ := t_ids_33 k hk
  have h5 := t_ids_35 k hk
  exact ⟨hP, by rw [t_I_ne (fun z => h4 z.symm)]; exact hW.2.1, fun j hj => by rw [t_I_ne (fun z => h3 z.symm)]; exact hW.2.2.1 j hj, fun hf => hW.2.2.2 (by rw [t_I_ne (show (36 : Nat) ≠ k by omega)] at hf; exact hf)⟩
theorem t_Wd_x {g : tE} {h : tH} {H H1 : Heap} {i : Nat} {x : Int32} (hW : t_Wd g h H) (hP : va_P g.2.1 t_cls (th_ws g (t_I h 35 i x)) H1) : t_Wd g (t_I h 35 i x) H1 :=
  ⟨hP, by rw [t_I_ne (by decide)]; exact hW.2.1, fun j hj => by rw [t_I_ne (by decide)]; exact hW.2.2.1 j hj, fun hf => hW.2.2.2 (by rw [t_I_ne (by decide)] at hf; exact hf)⟩
theorem t_Wd_L {g : tE} {h : tH} {H H1 : Heap} {k i : Nat} {x : Int64} (hW : t_Wd g h H) (hP : va_P g.2.1 t_cls (th_ws g (t_L h k i x)) H1) : t_Wd g (t_L h k i x) H1 := ⟨hP, hW.2.1, hW.2.2⟩
theorem t_clamp {L : Nat} (h : L ≤ 3072) : (Int32.ofNat L).toNatClampNeg = L := nI_clamp (n := L) (by omega)
theorem t_nar_z {x : Int32} (h : x = 0 ∨ x = 1) : vp_nar .boolean x = x ∧ narrow .boolean (.int x) = .int x ∧ fits .boolean (.int x) = true := by
  rcases h with rfl | rfl <;> exact ⟨by decide, by decide, by decide⟩
end
section
theorem t_ce_any {g : tE} {h : tH} {k ty n : Nat} (ha : t_ar k = some (ty, n)) : ∃ (t0 : Nat) (cA : ClassId) (x : vp_A) (ft : FieldType), t_ce g h k = .inl (cA, x) ∧ (t_tys g)[t0]? = some (cA, ft) ∧ x.1 = n := by
  have hty := t_ar_ty ha
  unfold t_ce
  rw [t_ar_ob ha, ha]
  match ty with
  | 0 => exact ⟨0, _, _, _, rfl, rfl, rfl⟩
  | 1 => simp at hty
  | 2 => simp at hty
  | 3 => exact ⟨1, _, _, _, rfl, rfl, rfl⟩
  | t + 4 => simp at hty
set_option maxHeartbeats 4000000 in
/-- an instruction that neither calls nor ends -/
theorem t_sim {g : tE} {q : tM} {p : Program} {l : Launch} {e : Env} {R : Room} {s : State} {m : MethodId} {args : Array Value} {below : List Frame} {meth : Method} {c : Code} {cells slots : Nat} {Qw : State → Prop}
    (C : t_Cx g q p s m meth c) (hR1 : 1 ≤ R.frames) (hR2 : 200 ≤ R.locals) (hR3 : cells ≤ R.cells) (hR4 : slots ≤ R.slots) {pc len : Nat} {ls st : List Value} {h : tH} {ins : Instr} {n : tN} (hd : decode (tm_by q) pc = .ok (ins, len)) (hs : t_smp q ins = true) (hn : t_st q pc ls st h len ins = n) (hg : n.1)
    (k : ∀ (H : Heap) (locs : List Loc) (lsA : Array Slot), t_Wd g n.2.2.2.2 H → va_S g.2.2.2.1 s.heap H locs → t_lr g n.2.2.1 lsA (tm_ml q) → W p l e R s m args below meth c H locs cells slots Qw (F0 m n.2.1 lsA (n.2.2.2.1.map (t_cv g)))) :
    ∀ (H : Heap) (locs : List Loc) (lsA : Array Slot), t_Wd g h H → va_S g.2.2.2.1 s.heap H locs → t_lr g ls lsA (tm_ml q) → W p l e R s m args below meth c H locs cells slots Qw (F0 m pc lsA (st.map (t_cv g))) := by
  obtain ⟨hx, hb, hml, hown, hlocks, hrt, htab, hE, hG, hA⟩ := C
  intro H locs lsA hW hS hl
  have hP := hW.1
  have hK := hE.1
  have hD := t_ws_D hG hW
  cases ins with
  | iconst a =>
    simp only [t_st] at hn
    subst hn
    obtain rfl := hg
    exact lv_iconst hx hb hd rfl (k H locs lsA hW hS hl)
  | bipush a =>
    simp only [t_st] at hn
    subst hn
    obtain rfl := hg
    exact lv_bipush hx hb hd rfl (k H locs lsA hW hS hl)
  | sipush a =>
    simp only [t_st] at hn
    subst hn
    obtain rfl := hg
    exact lv_sipush hx hb hd rfl (k H locs lsA hW hS hl)
  | lconst a =>
    simp only [t_st] at hn
    subst hn
    obtain rfl := hg
    exact lv_lconst hx hb hd rfl (k H locs lsA hW hS hl)
  | aconst_null =>
    simp only [t_st] at hn
    subst hn
    obtain rfl := hg
    exact lv_null hx hb hd (k H locs lsA hW hS hl)
  | iload_n a =>
    simp only [t_st] at hn
    split at hn
    · rename_i x hx1
      subst hn
      obtain rfl := hg
      exact lv_iload_n hx hb hd rfl (t_lr_at hl hx1 rfl) (k H locs lsA hW hS hl)
    · subst hn; exact hg.elim
  | iload a =>
    simp only [t_st] at hn
    split at hn
    · rename_i x hx1
      subst hn
      obtain rfl := hg
      exact lv_iload hx hb hd (t_lr_at hl hx1 rfl) (k H locs lsA hW hS hl)
    · subst hn; exact hg.elim
  | lload_n a =>
    simp only [t_st] at hn
    split at hn
    · rename_i x hx1
      subst hn
      obtain rfl := hg
      exact lv_lload_n hx hb hd rfl (t_lr_at hl hx1 rfl) (k H locs lsA hW hS hl)
    · subst hn; exact hg.elim
  | lload a =>
    simp only [t_st] at hn
    split at hn
    · rename_i x hx1
      subst hn
      obtain rfl := hg
      exact lv_lload hx hb hd (t_lr_at hl hx1 rfl) (k H locs lsA hW hS hl)
    · subst hn; exact hg.elim
  | aload_n a =>
    simp only [t_st] at hn
    split at hn
    · rename_i x hx1
      subst hn
      obtain rfl := hg
      exact lv_aload_n hx hb hd rfl (t_lr_at hl hx1 rfl) (k H locs lsA hW hS hl)
    · rename_i hx1
      subst hn
      obtain rfl := hg
      exact lv_aload_nN hx hb hd rfl (t_lr_at hl hx1 rfl) (k H locs lsA hW hS hl)
    · subst hn; exact hg.elim
  | aload a =>
    simp only [t_st] at hn
    split at hn
    · rename_i x hx1
      subst hn
      obtain rfl := hg
      exact lv_aload hx hb hd (t_lr_at hl hx1 rfl) (k H locs lsA hW hS hl)
    · rename_i hx1
      subst hn
      obtain rfl := hg
      exact lv_aloadN hx hb hd (t_lr_at hl hx1 rfl) (k H locs lsA hW hS hl)
    · subst hn; exact hg.elim
  | istore_n a =>
    simp only [t_st] at hn
    split at hn
    · subst hn
      obtain ⟨rfl, g1, g2⟩ := hg
      exact lv_istore_n hx hb hd rfl (t_lr_has hl) (by rw [← hl.2.1]; exact g1) rfl (fun ls1 hl1 => k H locs ls1 hW hS (t_lr_st1 g2 hl.2.1 (fun _ => rfl) hl1))
    · subst hn; exact hg.elim
  | istore a =>
    simp only [t_st] at hn
    split at hn
    · subst hn
      obtain ⟨rfl, g1, g2⟩ := hg
      exact lv_istore hx hb hd (t_lr_has hl) (by rw [← hl.2.1]; exact g1) rfl (fun ls1 hl1 => k H locs ls1 hW hS (t_lr_st1 g2 hl.2.1 (fun _ => rfl) hl1))
    · subst hn; exact hg.elim
  | astore_n a =>
    simp only [t_st] at hn
    split at hn
    · subst hn
      obtain ⟨rfl, g1, g2⟩ := hg
      exact lv_astore_n hx hb hd rfl (t_lr_has hl) (by rw [← hl.2.1]; exact g1) rfl (fun ls1 hl1 => k H locs ls1 hW hS (t_lr_st1 g2 hl.2.1 (fun _ => rfl) hl1))
    · subst hn
      obtain ⟨rfl, g1, g2⟩ := hg
      exact lv_astore_nN hx hb hd rfl (t_lr_has hl) (by rw [← hl.2.1]; exact g1) rfl (fun ls1 hl1 => k H locs ls1 hW hS (t_lr_st1 g2 hl.2.1 (fun _ => rfl) hl1))
    · subst hn; exact hg.elim
  | astore a =>
    simp only [t_st] at hn
    split at hn
    · subst hn
      obtain ⟨rfl, g1, g2⟩ := hg
      exact lv_astore hx hb hd (t_lr_has hl) (by rw [← hl.2.1]; exact g1) rfl (fun ls1 hl1 => k H locs ls1 hW hS (t_lr_st1 g2 hl.2.1 (fun _ => rfl) hl1))
    · subst hn
      obtain ⟨rfl, g1, g2⟩ := hg
      exact lv_astoreN hx hb hd (t_lr_has hl) (by rw [← hl.2.1]; exact g1) rfl (fun ls1 hl1 => k H locs ls1 hW hS (t_lr_st1 g2 hl.2.1 (fun _ => rfl) hl1))
    · subst hn; exact hg.elim
  | lstore_n a =>
    simp only [t_st] at hn
    split at hn
    · subst hn
      obtain ⟨rfl, g1, g2⟩ := hg
      exact lv_lstore_n hx hb hd rfl (t_lr_has hl) (by rw [← hl.2.1]; exact g1) rfl (fun ls1 hl1 => k H locs ls1 hW hS (t_lr_st2 g2 hl.2.1 (fun _ => rfl) hl1))
    · subst hn; exact hg.elim
  | lstore a =>
    simp only [t_st] at hn
    split at hn
    · subst hn
      obtain ⟨rfl, g1, g2⟩ := hg
      exact lv_lstore hx hb hd (t_lr_has hl) (by rw [← hl.2.1]; exact g1) rfl (fun ls1 hl1 => k H locs ls1 hW hS (t_lr_st2 g2 hl.2.1 (fun _ => rfl) hl1))
    · subst hn; exact hg.elim
  | iinc a b =>
    simp only [t_st] at hn
    split at hn
    · rename_i x hx1
      subst hn
      obtain ⟨rfl, g2⟩ := hg
      obtain ⟨k0, hk0⟩ := List.getElem?_of_mem (t_ll_in (g := g) hx1 rfl)
      exact lv_iinc hx hb hd (t_lr_has hl) hk0 rfl (by rw [← hl.2.1]; exact (List.getElem?_eq_some_iff.mp hx1).1) rfl (fun ls1 hl1 => k H locs ls1 hW hS (t_lr_st1 (w := .int (x + Int32.ofInt b)) g2 hl.2.1 (fun _ => rfl) hl1))
    · subst hn; exact hg.elim
  | iadd =>
    simp only [t_st] at hn
    split at hn
    · subst hn
      obtain rfl := hg
      exact lv_iadd hx hb hd (k H locs lsA hW hS hl)
    · subst hn; exact hg.elim
  | isub =>
    simp only [t_st] at hn
    split at hn
    · subst hn
      obtain rfl := hg
      exact lv_isub hx hb hd (k H locs lsA hW hS hl)
    · subst hn; exact hg.elim
  | imul =>
    simp only [t_st] at hn
    split at hn
    · subst hn
      obtain rfl := hg
      exact lv_imul hx hb hd (k H locs lsA hW hS hl)
    · subst hn; exact hg.elim
  | iand =>
    simp only [t_st] at hn
    split at hn
    · subst hn
      obtain rfl := hg
      exact lv_iand hx hb hd (k H locs lsA hW hS hl)
    · subst hn; exact hg.elim
  | ior =>
    simp only [t_st] at hn
    split at hn
    · subst hn
      obtain rfl := hg
      exact lv_ior hx hb hd (k H locs lsA hW hS hl)
    · subst hn; exact hg.elim
  | ixor =>
    simp only [t_st] at hn
    split at hn
    · subst hn
      obtain rfl := hg
      exact lv_ixor hx hb hd (k H locs lsA hW hS hl)
    · subst hn; exact hg.elim
  | ladd =>
    simp only [t_st] at hn
    split at hn
    · subst hn
      obtain rfl := hg
      exact lv_ladd hx hb hd (k H locs lsA hW hS hl)
    · subst hn; exact hg.elim
  | lsub =>
    simp only [t_st] at hn
    split at hn
    · subst hn
      obtain rfl := hg
      exact lv_lsub hx hb hd (k H locs lsA hW hS hl)
    · subst hn; exact hg.elim
  | lmul =>
    simp only [t_st] at hn
    split at hn
    · subst hn
      obtain rfl := hg
      exact lv_lmul hx hb hd (k H locs lsA hW hS hl)
    · subst hn; exact hg.elim
  | lor =>
    simp only [t_st] at hn
    split at hn
    · subst hn
      obtain rfl := hg
      exact lv_lor hx hb hd (k H locs lsA hW hS hl)
    · subst hn; exact hg.elim
  | land =>
    simp only [t_st] at hn
    split at hn
    · subst hn
      obtain rfl := hg
      exact lv_land hx hb hd (k H locs lsA hW hS hl)
    · subst hn; exact hg.elim
  | lxor =>
    simp only [t_st] at hn
    split at hn
    · subst hn
      obtain rfl := hg
      exact lv_lxor hx hb hd (k H locs lsA hW hS hl)
    · subst hn; exact hg.elim
  | ineg =>
    simp only [t_st] at hn
    split at hn
    · subst hn
      obtain rfl := hg
      exact lv_ineg hx hb hd (k H locs lsA hW hS hl)
    · subst hn; exact hg.elim
  | ishl =>
    simp only [t_st] at hn
    split at hn
    · subst hn
      obtain rfl := hg
      exact lv_ishl hx hb hd (k H locs lsA hW hS hl)
    · subst hn; exact hg.elim
  | ishr =>
    simp only [t_st] at hn
    split at hn
    · subst hn
      obtain rfl := hg
      exact lv_ishr hx hb hd (k H locs lsA hW hS hl)
    · subst hn; exact hg.elim
  | iushr =>
    simp only [t_st] at hn
    split at hn
    · subst hn
      obtain rfl := hg
      exact lv_iushr hx hb hd rfl (k H locs lsA hW hS hl)
    · subst hn; exact hg.elim
  | lshl =>
    simp only [t_st] at hn
    split at hn
    · subst hn
      obtain rfl := hg
      exact lv_lshl hx hb hd rfl (k H locs lsA hW hS hl)
    · subst hn; exact hg.elim
  | lshr =>
    simp only [t_st] at hn
    split at hn
    · subst hn
      obtain rfl := hg
      exact lv_lshr hx hb hd rfl (k H locs lsA hW hS hl)
    · subst hn; exact hg.elim
  | i2l =>
    simp only [t_st] at hn
    split at hn
    · subst hn
      obtain rfl := hg
      exact lv_i2l hx hb hd rfl (k H locs lsA hW hS hl)
    · subst hn; exact hg.elim
  | idiv =>
    simp only [t_st] at hn
    split at hn
    · subst hn
      obtain ⟨rfl, g1⟩ := hg
      exact lv_idiv hx hb hd g1 (k H locs lsA hW hS hl)
    · subst hn; exact hg.elim
  | irem =>
    simp only [t_st] at hn
    split at hn
    · subst hn
      obtain ⟨rfl, g1⟩ := hg
      exact lv_irem hx hb hd g1 (k H locs lsA hW hS hl)
    · subst hn; exact hg.elim
  | lcmp =>
    simp only [t_st] at hn
    split at hn
    · subst hn
      obtain rfl := hg
      exact W.lcmp hx hb hd (k H locs lsA hW hS hl)
    · subst hn; exact hg.elim
  | dup =>
    simp only [t_st] at hn
    split at hn
    · subst hn
      obtain ⟨rfl, g1⟩ := hg
      exact lv_dup hx hb hd (by rw [t_cv_cat]; exact g1) (k H locs lsA hW hS hl)
    · subst hn; exact hg.elim
  | dup2 =>
    simp only [t_st] at hn
    split at hn
    · subst hn
      obtain ⟨rfl, g1, g2⟩ := hg
      exact lv_dup2_11 hx hb hd (by rw [t_cv_cat]; exact g1) (by rw [t_cv_cat]; exact g2) (k H locs lsA hW hS hl)
    · subst hn; exact hg.elim
  | goto off =>
    simp only [t_st] at hn
    subst hn
    obtain ⟨rfl, g1⟩ := hg
    exact lv_goto hx hb hd (Int.toNat_of_nonneg g1).symm (k H locs lsA hW hS hl)
  | ifCond cnd off =>
    simp only [t_st] at hn
    split at hn
    · subst hn
      obtain ⟨rfl, g1⟩ := hg
      cases cnd
      · refine lv_if_eq hx hb hd (Int.toNat_of_nonneg g1).symm (fun hc => ?_) (fun hc => ?_)
        · have k2 := k H locs lsA hW hS hl
          dsimp only at k2
          rw [if_pos (show t_cb .eq _ _ = true from decide_eq_true hc)] at k2
          exact k2
        · have k2 := k H locs lsA hW hS hl
          dsimp only at k2
          rw [if_neg (show ¬ t_cb .eq _ _ = true from fun z => hc (of_decide_eq_true z))] at k2
          exact k2
      · refine lv_if_ne hx hb hd (Int.toNat_of_nonneg g1).symm (fun hc => ?_) (fun hc => ?_)
        · have k2 := k H locs lsA hW hS hl
          dsimp only at k2
          rw [if_pos (show t_cb .ne _ _ = true from decide_eq_true hc)] at k2
          exact k2
        · have k2 := k H locs lsA hW hS hl
          dsimp only at k2
          rw [if_neg (show ¬ t_cb .ne _ _ = true from fun z => absurd hc (of_decide_eq_true z))] at k2
          exact k2
      · refine lv_if_lt hx hb hd (Int.toNat_of_nonneg g1).symm (fun hc => ?_) (fun hc => ?_)
        · have k2 := k H locs lsA hW hS hl
          dsimp only at k2
          rw [if_pos (show t_cb .lt _ _ = true from decide_eq_true hc)] at k2
          exact k2
        · have k2 := k H locs lsA hW hS hl
          dsimp only at k2
          rw [if_neg (show ¬ t_cb .lt _ _ = true from fun z => hc (of_decide_eq_true z))] at k2
          exact k2
      · refine lv_if_ge hx hb hd (Int.toNat_of_nonneg g1).symm (fun hc => ?_) (fun hc => ?_)
        · have k2 := k H locs lsA hW hS hl
          dsimp only at k2
          rw [if_pos (show t_cb .ge _ _ = true from decide_eq_true hc)] at k2
          exact k2
        · have k2 := k H locs lsA hW hS hl
          dsimp only at k2
          rw [if_neg (show ¬ t_cb .ge _ _ = true from fun z => hc (of_decide_eq_true z))] at k2
          exact k2
      · refine lv_if_gt hx hb hd (Int.toNat_of_nonneg g1).symm (fun hc => ?_) (fun hc => ?_)
        · have k2 := k H locs lsA hW hS hl
          dsimp only at k2
          rw [if_pos (show t_cb .gt _ _ = true from decide_eq_true hc)] at k2
          exact k2
        · have k2 := k H locs lsA hW hS hl
          dsimp only at k2
          rw [if_neg (show ¬ t_cb .gt _ _ = true from fun z => hc (of_decide_eq_true z))] at k2
          exact k2
      · refine lv_if_le hx hb hd (Int.toNat_of_nonneg g1).symm (fun hc => ?_) (fun hc => ?_)
        · have k2 := k H locs lsA hW hS hl
          dsimp only at k2
          rw [if_pos (show t_cb .le _ _ = true from decide_eq_true hc)] at k2
          exact k2
        · have k2 := k H locs lsA hW hS hl
          dsimp only at k2
          rw [if_neg (show ¬ t_cb .le _ _ = true from fun z => hc (of_decide_eq_true z))] at k2
          exact k2
    · subst hn; exact hg.elim
  | if_icmp cnd off =>
    simp only [t_st] at hn
    split at hn
    · subst hn
      obtain ⟨rfl, g1⟩ := hg
      cases cnd
      · refine lv_icmp_eq hx hb hd (Int.toNat_of_nonneg g1).symm (fun hc => ?_) (fun hc => ?_)
        · have k2 := k H locs lsA hW hS hl
          dsimp only at k2
          rw [if_pos (show t_cb .eq _ _ = true from decide_eq_true hc)] at k2
          exact k2
        · have k2 := k H locs lsA hW hS hl
          dsimp only at k2
          rw [if_neg (show ¬ t_cb .eq _ _ = true from fun z => hc (of_decide_eq_true z))] at k2
          exact k2
      · refine lv_icmp_ne hx hb hd (Int.toNat_of_nonneg g1).symm (fun hc => ?_) (fun hc => ?_)
        · have k2 := k H locs lsA hW hS hl
          dsimp only at k2
          rw [if_pos (show t_cb .ne _ _ = true from decide_eq_true hc)] at k2
          exact k2
        · have k2 := k H locs lsA hW hS hl
          dsimp only at k2
          rw [if_neg (show ¬ t_cb .ne _ _ = true from fun z => absurd hc (of_decide_eq_true z))] at k2
          exact k2
      · refine lv_icmp_lt hx hb hd (Int.toNat_of_nonneg g1).symm (fun hc => ?_) (fun hc => ?_)
        · have k2 := k H locs lsA hW hS hl
          dsimp only at k2
          rw [if_pos (show t_cb .lt _ _ = true from decide_eq_true hc)] at k2
          exact k2
        · have k2 := k H locs lsA hW hS hl
          dsimp only at k2
          rw [if_neg (show ¬ t_cb .lt _ _ = true from fun z => hc (of_decide_eq_true z))] at k2
          exact k2
      · refine lv_icmp_ge hx hb hd (Int.toNat_of_nonneg g1).symm (fun hc => ?_) (fun hc => ?_)
        · have k2 := k H locs lsA hW hS hl
          dsimp only at k2
          rw [if_pos (show t_cb .ge _ _ = true from decide_eq_true hc)] at k2
          exact k2
        · have k2 := k H locs lsA hW hS hl
          dsimp only at k2
          rw [if_neg (show ¬ t_cb .ge _ _ = true from fun z => hc (of_decide_eq_true z))] at k2
          exact k2
      · refine lv_icmp_gt hx hb hd (Int.toNat_of_nonneg g1).symm (fun hc => ?_) (fun hc => ?_)
        · have k2 := k H locs lsA hW hS hl
          dsimp only at k2
          rw [if_pos (show t_cb .gt _ _ = true from decide_eq_true hc)] at k2
          exact k2
        · have k2 := k H locs lsA hW hS hl
          dsimp only at k2
          rw [if_neg (show ¬ t_cb .gt _ _ = true from fun z => hc (of_decide_eq_true z))] at k2
          exact k2
      · refine lv_icmp_le hx hb hd (Int.toNat_of_nonneg g1).symm (fun hc => ?_) (fun hc => ?_)
        · have k2 := k H locs lsA hW hS hl
          dsimp only at k2
          rw [if_pos (show t_cb .le _ _ = true from decide_eq_true hc)] at k2
          exact k2
        · have k2 := k H locs lsA hW hS hl
          dsimp only at k2
          rw [if_neg (show ¬ t_cb .le _ _ = true from fun z => hc (of_decide_eq_true z))] at k2
          exact k2
    · subst hn; exact hg.elim
  | ifnonnull off =>
    simp only [t_st] at hn
    split at hn
    · subst hn
      obtain ⟨rfl, g1⟩ := hg
      exact lv_ifnonnull hx hb hd (Int.toNat_of_nonneg g1).symm (k H locs lsA hW hS hl)
    · subst hn
      obtain rfl := hg
      exact lv_ifnonnullN hx hb hd (k H locs lsA hW hS hl)
    · subst hn; exact hg.elim
  | tableswitch dflt lo hi offs =>
    simp only [t_st] at hn
    split at hn
    · rename_i x st'
      split at hn
      · next hc =>
        subst hn
        exact lv_tableOut hx hb hd hc (Int.toNat_of_nonneg hg).symm (k H locs lsA hW hS hl)
      · next hc =>
        split at hn
        · next off ho =>
          subst hn
          exact lv_tableIn hx hb hd (fun z => hc (Or.inl z)) (fun z => hc (Or.inr z)) ho (Int.toNat_of_nonneg hg).symm (k H locs lsA hW hS hl)
        · subst hn; exact hg.elim
    · subst hn; exact hg.elim
  | ldc_w i =>
    simp only [t_st] at hn
    split at hn
    · next v w hv =>
      subst hn
      obtain rfl := hg
      have hk9 := (t_kok _ (t_lk_mem _ _ _ _ hv)).1 v rfl
      exact lv_ldcw hx hb hown (hE.word hk9 rfl) hd (k H locs lsA hW hS hl)
    · subst hn; exact hg.elim
  | ldc i =>
    simp only [t_st] at hn
    split at hn
    · next v w hv =>
      subst hn
      obtain rfl := hg
      have hk9 := (t_kok _ (t_lk_mem _ _ _ _ hv)).1 v rfl
      exact lv_ldc hx hb hown (hE.word hk9 rfl) hd (k H locs lsA hW hS hl)
    · subst hn; exact hg.elim
  | ldc2_w i =>
    simp only [t_st] at hn
    split at hn
    · next v w hv =>
      subst hn
      obtain rfl := hg
      have hk9 := (t_kok _ (t_lk_mem _ _ _ _ hv)).2 _ rfl
      exact lv_ldc2 hx hb hown (hE.word hk9 rfl) hd (k H locs lsA hW hS hl)
    · subst hn; exact hg.elim
  | invokestatic i =>
    simp only [t_st] at hn
    split at hn
    · next y x st' hv =>
      subst hn
      obtain ⟨rfl, g1⟩ := hg
      have hk9 := t_xok _ (t_lk_mem _ _ _ _ hv)
      have hw9 : ((st'.map (t_cv g)).map fun v => v.category).sum = (st'.map Value.category).sum := by rw [List.map_map]; exact congrArg List.sum (List.map_congr_left fun v _ => t_cv_cat g v)
      exact va_mmax hx hb (by rw [hml, hl.1]) hown (hE.word hk9 rfl) (hE.word t_mmax.1 rfl) (hE.word t_mmax.2.1 rfl) (hE.word t_mmax.2.2 rfl) hR1 (by rw [hw9]; omega) hR3 hR4 hd (k H locs lsA hW hS hl)
    · next y x st' hv =>
      subst hn
      obtain ⟨rfl, g1⟩ := hg
      have hk9 := t_xok _ (t_lk_mem _ _ _ _ hv)
      have hw9 : ((st'.map (t_cv g)).map fun v => v.category).sum = (st'.map Value.category).sum := by rw [List.map_map]; exact congrArg List.sum (List.map_congr_left fun v _ => t_cv_cat g v)
      exact va_mmin hx hb (by rw [hml, hl.1]) hown (hE.word hk9 rfl) (hE.word t_mmin.1 rfl) (hE.word t_mmin.2.1 rfl) (hE.word t_mmin.2.2 rfl) hR1 (by rw [hw9]; omega) hR3 hR4 hd (k H locs lsA hW hS hl)
    · subst hn; exact hg.elim
  | getfield i =>
    simp only [t_st] at hn
    split at hn
    · rename_i kk st'
      split at hn
      · rename_i ci sl ty fin hv
        subst hn
        obtain ⟨rfl, hob⟩ := hg
        obtain ⟨cq, hcl, hlt, hft, hfin, hlink, hp0, hp1, hp2, hp4⟩ := t_fok _ (t_lk_mem _ _ _ _ hv)
        dsimp only at hcl hlt hft hfin hlink hp0 hp1 hp2 hp4
        obtain ⟨hu, ⟨ty0, hty⟩, hnm, hlen⟩ := t_cok _ _ hcl
        have hts : ∀ w ∈ u_ws cq.1 cq.2.1 cq.2.2, w.before args s = true := fun w hw => hE.word (hu w hw).1 (hu w hw).2
        obtain ⟨q0, hq0, hw0⟩ := th_ws_get g h (t_ids_ob hob)
        rw [t_ce_o hob] at hw0
        have hv9 : ((t_ft ci).mapIdx (fun sl ty => t_cv g (t_fv h ci sl ty kk)))[sl]? = some (t_cv g (t_fv h ci sl ty kk)) := by rw [List.getElem?_mapIdx, hft]; rfl
        rcases hlink with hlink | ⟨host, hlink⟩
        · exact va_get hx hb hts (fun _ h9 => h9) hown hK hP q0 hw0 hcl sl hlt (hE.word hlink rfl) (fun _ h9 => h9) hv9 hd (k H locs lsA hW hS hl)
        · exact va_getN hx hb hts (fun _ h9 => h9) hown hK hP q0 hw0 hcl sl hlt (hE.word hlink rfl) (fun _ h9 => h9) hv9 hd (k H locs lsA hW hS hl)
      · subst hn; exact hg.elim
    · subst hn; exact hg.elim
  | putfield i =>
    simp only [t_st] at hn
    split at hn
    · rename_i x kk st'
      split at hn
      · rename_i ci sl hv
        subst hn
        obtain ⟨rfl, hob⟩ := hg
        obtain ⟨cq, hcl, hlt, hft, hfin, hlink, hp0, hp1, hp2, hp4⟩ := t_fok _ (t_lk_mem _ _ _ _ hv)
        dsimp only at hcl hlt hft hfin hlink hp0 hp1 hp2 hp4
        obtain ⟨hu, ⟨ty0, hty⟩, hnm, hlen⟩ := t_cok _ _ hcl
        have hts : ∀ w ∈ u_ws cq.1 cq.2.1 cq.2.2, w.before args s = true := fun w hw => hE.word (hu w hw).1 (hu w hw).2
        obtain ⟨q0, hq0, hw0⟩ := th_ws_get g h (t_ids_ob hob)
        rw [t_ce_o hob] at hw0
        have hlk : sl < ((t_ft ci).mapIdx (fun sl ty => t_cv g (t_fv h ci sl ty kk))).length := by rw [List.length_mapIdx, hlen]; exact hlt
        have hset := th_ws_set (g := g) (h := h) (h' := t_I h kk sl x) hq0 (t_ce_set (g := g) (h := h) (h' := t_I h kk sl x) (v := t_cv g (.int x)) hob (fun ty' h9 => by cases hft.symm.trans h9; show Value.int x = .int ((t_I h kk sl x).1 kk sl); simp [t_I]) (fun i ty' hi _ => by unfold t_fv; split <;> first | rfl | (simp [t_I, hi]; done))) (fun j _ hj => t_ce_I hj) (t_xc_I (t_ids_ob hob))
        rcases hlink with hlink | ⟨host, hlink⟩
        · refine va_put hx hb hts (fun _ h9 => h9) ty0 hty hnm hown hK hP hD hS q0 hw0 hcl sl hlt (hE.word hlink rfl) (fun _ h9 => h9) hfin (hp0 rfl) rfl rfl hlk hd (fun H1 locs1 hP1 hD1 hS1 => ?_)
          rw [hset] at hP1
          exact k H1 locs1 lsA (t_Wd_I hW (t_ids_ob hob) hP1) hS1 hl
        · refine va_putN hx hb hts (fun _ h9 => h9) ty0 hty hnm hown hK hP hD hS q0 hw0 hcl sl hlt (hE.word hlink rfl) (fun _ h9 => h9) hfin (hp0 rfl) rfl rfl hlk hd (fun H1 locs1 hP1 hD1 hS1 => ?_)
          rw [hset] at hP1
          exact k H1 locs1 lsA (t_Wd_I hW (t_ids_ob hob) hP1) hS1 hl
      · rename_i ci sl hv
        subst hn
        obtain ⟨rfl, hob, hx01⟩ := hg
        obtain ⟨cq, hcl, hlt, hft, hfin, hlink, hp0, hp1, hp2, hp4⟩ := t_fok _ (t_lk_mem _ _ _ _ hv)
        dsimp only at hcl hlt hft hfin hlink hp0 hp1 hp2 hp4
        obtain ⟨hu, ⟨ty0, hty⟩, hnm, hlen⟩ := t_cok _ _ hcl
        have hts : ∀ w ∈ u_ws cq.1 cq.2.1 cq.2.2, w.before args s = true := fun w hw => hE.word (hu w hw).1 (hu w hw).2
        obtain ⟨q0, hq0, hw0⟩ := th_ws_get g h (t_ids_ob hob)
        rw [t_ce_o hob] at hw0
        have hlk : sl < ((t_ft ci).mapIdx (fun sl ty => t_cv g (t_fv h ci sl ty kk))).length := by rw [List.length_mapIdx, hlen]; exact hlt
        have hset := th_ws_set (g := g) (h := h) (h' := t_I h kk sl x) hq0 (t_ce_set (g := g) (h := h) (h' := t_I h kk sl x) (v := t_cv g (.int x)) hob (fun ty' h9 => by cases hft.symm.trans h9; show Value.int x = .int ((t_I h kk sl x).1 kk sl); simp [t_I]) (fun i ty' hi _ => by unfold t_fv; split <;> first | rfl | (simp [t_I, hi]; done))) (fun j _ hj => t_ce_I hj) (t_xc_I (t_ids_ob hob))
        rcases hlink with hlink | ⟨host, hlink⟩
        · refine va_put hx hb hts (fun _ h9 => h9) ty0 hty hnm hown hK hP hD hS q0 hw0 hcl sl hlt (hE.word hlink rfl) (fun _ h9 => h9) hfin (hp1 rfl) (t_nar_z hx01).2.1 (t_nar_z hx01).2.2 hlk hd (fun H1 locs1 hP1 hD1 hS1 => ?_)
          rw [hset] at hP1
          exact k H1 locs1 lsA (t_Wd_I hW (t_ids_ob hob) hP1) hS1 hl
        · refine va_putN hx hb hts (fun _ h9 => h9) ty0 hty hnm hown hK hP hD hS q0 hw0 hcl sl hlt (hE.word hlink rfl) (fun _ h9 => h9) hfin (hp1 rfl) (t_nar_z hx01).2.1 (t_nar_z hx01).2.2 hlk hd (fun H1 locs1 hP1 hD1 hS1 => ?_)
          rw [hset] at hP1
          exact k H1 locs1 lsA (t_Wd_I hW (t_ids_ob hob) hP1) hS1 hl
      · subst hn; exact hg.elim
    · rename_i x kk st'
      split at hn
      · rename_i ci sl hv
        subst hn
        obtain ⟨rfl, hob⟩ := hg
        obtain ⟨cq, hcl, hlt, hft, hfin, hlink, hp0, hp1, hp2, hp4⟩ := t_fok _ (t_lk_mem _ _ _ _ hv)
        dsimp only at hcl hlt hft hfin hlink hp0 hp1 hp2 hp4
        obtain ⟨hu, ⟨ty0, hty⟩, hnm, hlen⟩ := t_cok _ _ hcl
        have hts : ∀ w ∈ u_ws cq.1 cq.2.1 cq.2.2, w.before args s = true := fun w hw => hE.word (hu w hw).1 (hu w hw).2
        obtain ⟨q0, hq0, hw0⟩ := th_ws_get g h (t_ids_ob hob)
        rw [t_ce_o hob] at hw0
        have hlk : sl < ((t_ft ci).mapIdx (fun sl ty => t_cv g (t_fv h ci sl ty kk))).length := by rw [List.length_mapIdx, hlen]; exact hlt
        have hset := th_ws_set (g := g) (h := h) (h' := t_L h kk sl x) hq0 (t_ce_set (g := g) (h := h) (h' := t_L h kk sl x) (v := t_cv g (.long x)) hob (fun ty' h9 => by cases hft.symm.trans h9; show Value.long x = .long ((t_L h kk sl x).2.1 kk sl); simp [t_L]) (fun i ty' hi _ => by unfold t_fv; split <;> first | rfl | (simp [t_L, hi]; done))) (fun j _ hj => t_ce_L hj) rfl
        rcases hlink with hlink | ⟨host, hlink⟩
        · refine va_put hx hb hts (fun _ h9 => h9) ty0 hty hnm hown hK hP hD hS q0 hw0 hcl sl hlt (hE.word hlink rfl) (fun _ h9 => h9) hfin (hp2 rfl) rfl rfl hlk hd (fun H1 locs1 hP1 hD1 hS1 => ?_)
          rw [hset] at hP1
          exact k H1 locs1 lsA (t_Wd_L hW hP1) hS1 hl
        · refine va_putN hx hb hts (fun _ h9 => h9) ty0 hty hnm hown hK hP hD hS q0 hw0 hcl sl hlt (hE.word hlink rfl) (fun _ h9 => h9) hfin (hp2 rfl) rfl rfl hlk hd (fun H1 locs1 hP1 hD1 hS1 => ?_)
          rw [hset] at hP1
          exact k H1 locs1 lsA (t_Wd_L hW hP1) hS1 hl
      · subst hn; exact hg.elim
    · subst hn; exact hg.elim
  | iaload =>
    simp only [t_st] at hn
    split at hn
    · rename_i i kk st'
      subst hn
      obtain ⟨rfl, hin⟩ := hg
      rcases t_ai_c hin with ⟨h33, hv⟩ | ⟨h35, hf, hv⟩ | ⟨h33, n, ha, hv⟩
      · subst h33
        rw [hW.2.1, t_clamp hG.2.2.1] at hv
        have hlt : i.toNatClampNeg < g.2.2.2.2.2.1 := Nat.not_le.mp fun z => hv (Or.inr z)
        have hk2 : W p l e R s m args below meth c H locs cells slots Qw (F0 m (pc + 1) lsA (.int (g.2.2.2.2.2.2 i.toNatClampNeg) :: st'.map (t_cv g))) := by
          rw [← hW.2.2.1 _ hlt]
          exact k H locs lsA hW hS hl
        have hr := va_sld hx hb hE.2.2.2.2.2.1 (by obtain ⟨scr, e1, _⟩ := hE.2.2.2.2.2.1; exact (Array.getElem?_eq_some_iff.mp e1).1) hG.1 hS hv hd hk2
        rw [← hG.2.1] at hr
        exact hr
      · subst h35
        exact va_iald hx hb hK hP t_ids.length 0 (th_ws_x g hf) rfl hv hd (k H locs lsA hW hS hl)
      · obtain ⟨q0, hq0, hw0⟩ := th_ws_get g h (t_ids_ar ha)
        rw [t_ce_0 ha] at hw0
        exact va_iald hx hb hK hP q0 0 hw0 rfl hv hd (k H locs lsA hW hS hl)
    · subst hn; exact hg.elim
  | iastore =>
    simp only [t_st] at hn
    split at hn
    · rename_i x i kk st'
      subst hn
      obtain ⟨rfl, h33, hin⟩ := hg
      rcases (t_ai_c hin).resolve_left (fun z => h33 z.1) with ⟨h35, hf, hv⟩ | ⟨-, n, ha, hv⟩
      · subst h35
        refine va_iast hx hb hK hP hD hS t_ids.length 0 (th_ws_x g hf) rfl hv hd (fun H1 locs1 hP1 hD1 hS1 => ?_)
        rw [th_ws_xs hf] at hP1
        exact k H1 locs1 lsA (t_Wd_x hW hP1) hS1 hl
      · obtain ⟨q0, hq0, hw0⟩ := th_ws_get g h (t_ids_ar ha)
        rw [t_ce_0 ha] at hw0
        refine va_iast hx hb hK hP hD hS q0 0 hw0 rfl hv hd (fun H1 locs1 hP1 hD1 hS1 => ?_)
        rw [th_ws_set (h' := t_I h kk i.toNatClampNeg x) hq0 (by rw [t_ce_0 ha, t_I_eq]) (fun j _ hj => t_ce_I hj) (t_xc_I (t_ids_ar ha))] at hP1
        exact k H1 locs1 lsA (t_Wd_I hW (t_ids_ar ha) hP1) hS1 hl
    · subst hn; exact hg.elim
  | bastore =>
    simp only [t_st] at hn
    split at hn
    · rename_i x i kk st'
      subst hn
      obtain ⟨rfl, hin, hx01⟩ := hg
      exact (t_bo_c hin).elim
    · subst hn; exact hg.elim
  | lastore =>
    simp only [t_st] at hn
    split at hn
    · rename_i x i kk st'
      subst hn
      obtain ⟨rfl, hin⟩ := hg
      exact (t_lo_c hin).elim
    · subst hn; exact hg.elim
  | baload =>
    simp only [t_st] at hn
    split at hn
    · rename_i i kk st'
      subst hn
      obtain ⟨rfl, hin⟩ := hg
      exact (t_bo_c hin).elim
    · subst hn; exact hg.elim
  | laload =>
    simp only [t_st] at hn
    split at hn
    · rename_i i kk st'
      subst hn
      obtain ⟨rfl, hin⟩ := hg
      exact (t_lo_c hin).elim
    · subst hn; exact hg.elim
  | aaload =>
    simp only [t_st] at hn
    split at hn
    · rename_i i kk st'
      subst hn
      obtain ⟨rfl, hin⟩ := hg
      obtain ⟨n, ha, hv⟩ := t_ro_c hin
      obtain ⟨q0, hq0, hw0⟩ := th_ws_get g h (t_ids_ar ha)
      rw [t_ce_3 ha] at hw0
      exact va_aldq hx hb hK hP q0 1 hw0 rfl hv hd (k H locs lsA hW hS hl)
    · subst hn; exact hg.elim
  | arraylength =>
    simp only [t_st] at hn
    split at hn
    · rename_i kk st'
      split at hn
      · rename_i n hv
        subst hn
        obtain rfl := hg
        unfold t_ln at hv
        split at hv
        · next h33 =>
          subst h33
          rw [hW.2.1, t_clamp hG.2.2.1] at hv
          cases hv
          have hr := va_slen hx hb hE.2.2.2.2.2.1 (by obtain ⟨scr, e1, _⟩ := hE.2.2.2.2.2.1; exact (Array.getElem?_eq_some_iff.mp e1).1) hG.1 hS hd (k H locs lsA hW hS hl)
          rw [← hG.2.1] at hr
          exact hr
        · split at hv
          · next ty n' ha =>
            cases hv
            obtain ⟨q0, hq0, hw0⟩ := th_ws_get g h (t_ids_ar ha)
            obtain ⟨t0, cA0, x0, ty0, e1, e2, e3⟩ := t_ce_any (g := g) (h := h) ha
            rw [e1] at hw0
            exact va_alen hx hb hK hP q0 t0 hw0 e2 (by rw [e3]) hd (k H locs lsA hW hS hl)
          · cases hv
      · subst hn; exact hg.elim
    · subst hn; exact hg.elim
  | _ => first | (simp [t_smp] at hs; done) | (subst hn; exact hg.elim)
end
section
/-! ===== the throws: their rows and words ===== -/
theorem t_atw_0 : ∀ w ∈ vx_atS RX9 55 (t_xn 0) ["java/lang/RuntimeException", "java/lang/Exception"], w ∈ lw_tbl ∧ t_gw w = true := by decide +kernel
theorem t_atw_1 : ∀ w ∈ vx_atS RX9 66 (t_xn 1) ["java/lang/RuntimeException", "java/lang/Exception"], w ∈ lw_tbl ∧ t_gw w = true := by decide +kernel
theorem t_atw_2 : ∀ w ∈ vx_atS RX9 173 (t_xn 2) ["java/lang/RuntimeException", "java/lang/Exception"], w ∈ lw_tbl ∧ t_gw w = true := by decide +kernel
def t_Tok (f : Nat × Nat × Nat) : Prop := ∀ q, t_M[f.1]? = some q → ∃ (ik is ic : Nat) (text : String), f.2.2 < 3 ∧ (t_cn (tm_oc q), is, text) ∈ t_str ∧ Cond.classLink (t_cn (tm_oc q)) ik (t_xn f.2.2) ∈ lw_tbl ∧ Cond.initialized (t_xn f.2.2) ∈ lw_tbl ∧
  (∀ w ∈ vx_atS (t_cn (tm_oc q)) ic (t_xn f.2.2) ["java/lang/RuntimeException", "java/lang/Exception"], w ∈ lw_tbl ∧ t_gw w = true) ∧ decode (tm_by q) f.2.1 = .ok (.new ik, 3) ∧ decode (tm_by q) (f.2.1 + 3) = .ok (.dup, 1) ∧
  ((decode (tm_by q) (f.2.1 + 4) = .ok (.ldc is, 2) ∧ decode (tm_by q) (f.2.1 + 6) = .ok (.invokespecial ic, 3) ∧ decode (tm_by q) (f.2.1 + 9) = .ok (.athrow, 1)) ∨ (decode (tm_by q) (f.2.1 + 4) = .ok (.ldc_w is, 3) ∧ decode (tm_by q) (f.2.1 + 7) = .ok (.invokespecial ic, 3) ∧ decode (tm_by q) (f.2.1 + 10) = .ok (.athrow, 1)))
theorem tt_0 : t_Tok (62, 28, 0) := fun q h => by
  cases (ta_62).symm.trans h
  exact ⟨51, 53, 55, "a number is out of its range", by decide, List.mem_of_getElem? (i := 7) rfl, List.mem_append_right _ (List.mem_of_getElem? (i := 326) (by decide +kernel)), List.mem_append_right _ (List.mem_of_getElem? (i := 11) (by decide +kernel)), t_atw_0, by decide +kernel, by decide +kernel, Or.inl ⟨by decide +kernel, by decide +kernel, by decide +kernel⟩⟩
theorem tt_1 : t_Tok (62, 50, 1) := fun q h => by
  cases (ta_62).symm.trans h
  exact ⟨62, 64, 66, "the shelf is full, or the point is on a place or a line of others", by decide, List.mem_of_getElem? (i := 8) rfl, List.mem_append_right _ (List.mem_of_getElem? (i := 174) (by decide +kernel)), List.mem_append_right _ (List.mem_of_getElem? (i := 14) (by decide +kernel)), t_atw_1, by decide +kernel, by decide +kernel, Or.inl ⟨by decide +kernel, by decide +kernel, by decide +kernel⟩⟩
theorem tt_2 : t_Tok (68, 11, 1) := fun q h => by
  cases (ta_68).symm.trans h
  exact ⟨62, 92, 66, "there are too few points", by decide, List.mem_of_getElem? (i := 0) rfl, List.mem_append_right _ (List.mem_of_getElem? (i := 174) (by decide +kernel)), List.mem_append_right _ (List.mem_of_getElem? (i := 14) (by decide +kernel)), t_atw_1, by decide +kernel, by decide +kernel, Or.inl ⟨by decide +kernel, by decide +kernel, by decide +kernel⟩⟩
theorem tt_3 : t_Tok (71, 43, 0) := fun q h => by
  cases (ta_71).symm.trans h
  exact ⟨51, 129, 55, "two of the points are the same", by decide, List.mem_of_getElem? (i := 4) rfl, List.mem_append_right _ (List.mem_of_getElem? (i := 326) (by decide +kernel)), List.mem_append_right _ (List.mem_of_getElem? (i := 11) (by decide +kernel)), t_atw_0, by decide +kernel, by decide +kernel, Or.inl ⟨by decide +kernel, by decide +kernel, by decide +kernel⟩⟩
theorem tt_4 : t_Tok (72, 24, 0) := fun q h => by
  cases (ta_72).symm.trans h
  exact ⟨51, 142, 55, "both points are the same", by decide, List.mem_of_getElem? (i := 5) rfl, List.mem_append_right _ (List.mem_of_getElem? (i := 326) (by decide +kernel)), List.mem_append_right _ (List.mem_of_getElem? (i := 11) (by decide +kernel)), t_atw_0, by decide +kernel, by decide +kernel, Or.inl ⟨by decide +kernel, by decide +kernel, by decide +kernel⟩⟩
theorem tt_5 : t_Tok (75, 22, 2) := fun q h => by
  cases (ta_75).symm.trans h
  exact ⟨169, 171, 173, "there is no such drawing", by decide, List.mem_of_getElem? (i := 2) rfl, List.mem_append_right _ (List.mem_of_getElem? (i := 306) (by decide +kernel)), List.mem_append_right _ (List.mem_of_getElem? (i := 15) (by decide +kernel)), t_atw_2, by decide +kernel, by decide +kernel, Or.inl ⟨by decide +kernel, by decide +kernel, by decide +kernel⟩⟩
theorem tt_6 : t_Tok (76, 15, 2) := fun q h => by
  cases (ta_76).symm.trans h
  exact ⟨169, 175, 173, "there is no such point", by decide, List.mem_of_getElem? (i := 3) rfl, List.mem_append_right _ (List.mem_of_getElem? (i := 306) (by decide +kernel)), List.mem_append_right _ (List.mem_of_getElem? (i := 15) (by decide +kernel)), t_atw_2, by decide +kernel, by decide +kernel, Or.inl ⟨by decide +kernel, by decide +kernel, by decide +kernel⟩⟩
theorem tt_7 : t_Tok (77, 13, 1) := fun q h => by
  cases (ta_77).symm.trans h
  exact ⟨62, 177, 66, "there are as many drawings as there can be", by decide, List.mem_of_getElem? (i := 1) rfl, List.mem_append_right _ (List.mem_of_getElem? (i := 174) (by decide +kernel)), List.mem_append_right _ (List.mem_of_getElem? (i := 14) (by decide +kernel)), t_atw_1, by decide +kernel, by decide +kernel, Or.inl ⟨by decide +kernel, by decide +kernel, by decide +kernel⟩⟩
theorem tt_8 : t_Tok (82, 21, 1) := fun q h => by
  cases (ta_82).symm.trans h
  exact ⟨62, 179, 66, "the drawing has no numbers", by decide, List.mem_of_getElem? (i := 6) rfl, List.mem_append_right _ (List.mem_of_getElem? (i := 174) (by decide +kernel)), List.mem_append_right _ (List.mem_of_getElem? (i := 14) (by decide +kernel)), t_atw_1, by decide +kernel, by decide +kernel, Or.inl ⟨by decide +kernel, by decide +kernel, by decide +kernel⟩⟩
theorem tt_9 : t_Tok (85, 13, 2) := fun q h => by
  cases (ta_85).symm.trans h
  exact ⟨169, 192, 173, "a place is not below 0", by decide, List.mem_of_getElem? (i := 11) rfl, List.mem_append_right _ (List.mem_of_getElem? (i := 306) (by decide +kernel)), List.mem_append_right _ (List.mem_of_getElem? (i := 15) (by decide +kernel)), t_atw_2, by decide +kernel, by decide +kernel, Or.inl ⟨by decide +kernel, by decide +kernel, by decide +kernel⟩⟩
theorem tt_10 : t_Tok (87, 69, 0) := fun q h => by
  cases (ta_87).symm.trans h
  exact ⟨51, 129, 55, "two of the points are the same", by decide, List.mem_of_getElem? (i := 4) rfl, List.mem_append_right _ (List.mem_of_getElem? (i := 326) (by decide +kernel)), List.mem_append_right _ (List.mem_of_getElem? (i := 11) (by decide +kernel)), t_atw_0, by decide +kernel, by decide +kernel, Or.inl ⟨by decide +kernel, by decide +kernel, by decide +kernel⟩⟩
theorem tt_11 : t_Tok (90, 18, 0) := fun q h => by
  cases (ta_90).symm.trans h
  exact ⟨51, 232, 55, "there is no such level", by decide, List.mem_of_getElem? (i := 13) rfl, List.mem_append_right _ (List.mem_of_getElem? (i := 326) (by decide +kernel)), List.mem_append_right _ (List.mem_of_getElem? (i := 11) (by decide +kernel)), t_atw_0, by decide +kernel, by decide +kernel, Or.inl ⟨by decide +kernel, by decide +kernel, by decide +kernel⟩⟩
theorem tt_12 : t_Tok (91, 24, 0) := fun q h => by
  cases (ta_91).symm.trans h
  exact ⟨51, 238, 55, "the set has a point that there is not", by decide, List.mem_of_getElem? (i := 12) rfl, List.mem_append_right _ (List.mem_of_getElem? (i := 326) (by decide +kernel)), List.mem_append_right _ (List.mem_of_getElem? (i := 11) (by decide +kernel)), t_atw_0, by decide +kernel, by decide +kernel, Or.inl ⟨by decide +kernel, by decide +kernel, by decide +kernel⟩⟩
theorem tt_13 : t_Tok (96, 29, 1) := fun q h => by
  cases (ta_96).symm.trans h
  exact ⟨62, 273, 66, "the segment is not in a triangulation", by decide, List.mem_of_getElem? (i := 9) rfl, List.mem_append_right _ (List.mem_of_getElem? (i := 174) (by decide +kernel)), List.mem_append_right _ (List.mem_of_getElem? (i := 14) (by decide +kernel)), t_atw_1, by decide +kernel, by decide +kernel, Or.inr ⟨by decide +kernel, by decide +kernel, by decide +kernel⟩⟩
theorem tt_14 : t_Tok (96, 172, 1) := fun q h => by
  cases (ta_96).symm.trans h
  exact ⟨62, 289, 66, "the segment cannot be flipped", by decide, List.mem_of_getElem? (i := 10) rfl, List.mem_append_right _ (List.mem_of_getElem? (i := 174) (by decide +kernel)), List.mem_append_right _ (List.mem_of_getElem? (i := 14) (by decide +kernel)), t_atw_1, by decide +kernel, by decide +kernel, Or.inr ⟨by decide +kernel, by decide +kernel, by decide +kernel⟩⟩
theorem t_tok : ∀ f ∈ t_tt, t_Tok f := List.forall_mem_cons.mpr ⟨tt_0, List.forall_mem_cons.mpr ⟨tt_1, List.forall_mem_cons.mpr ⟨tt_2, List.forall_mem_cons.mpr ⟨tt_3, List.forall_mem_cons.mpr ⟨tt_4, List.forall_mem_cons.mpr ⟨tt_5, List.forall_mem_cons.mpr ⟨tt_6, List.forall_mem_cons.mpr ⟨tt_7, List.forall_mem_cons.mpr ⟨tt_8, List.forall_mem_cons.mpr ⟨tt_9, List.forall_mem_cons.mpr ⟨tt_10, List.forall_mem_cons.mpr ⟨tt_11, List.forall_mem_cons.mpr ⟨tt_12, List.forall_mem_cons.mpr ⟨tt_13, List.forall_mem_cons.mpr ⟨tt_14, fun _ h => absurd h List.not_mem_nil⟩⟩⟩⟩⟩⟩⟩⟩⟩⟩⟩⟩⟩⟩⟩
def t_Eok (f : Nat × Nat × Nat) : Prop := f.2.2 < 3 ∧ f.2.1 ≠ 0 ∧ Cond.classLink (t_cn f.1) f.2.1 (t_xn f.2.2) ∈ lw_tbl
theorem te_0 : t_Eok (9, 51, 0) := ⟨by decide, by decide, List.mem_append_right _ (List.mem_of_getElem? (i := 326) (by decide +kernel))⟩
theorem te_1 : t_Eok (9, 62, 1) := ⟨by decide, by decide, List.mem_append_right _ (List.mem_of_getElem? (i := 174) (by decide +kernel))⟩
theorem te_2 : t_Eok (9, 169, 2) := ⟨by decide, by decide, List.mem_append_right _ (List.mem_of_getElem? (i := 306) (by decide +kernel))⟩
theorem te_3 : t_Eok (13, 16, 1) := ⟨by decide, by decide, List.mem_append_right _ (List.mem_of_getElem? (i := 470) (by decide +kernel))⟩
theorem t_eok : ∀ f ∈ t_xt, t_Eok f := List.forall_mem_cons.mpr ⟨te_0, List.forall_mem_cons.mpr ⟨te_1, List.forall_mem_cons.mpr ⟨te_2, List.forall_mem_cons.mpr ⟨te_3, fun _ h => absurd h List.not_mem_nil⟩⟩⟩⟩
theorem t_cast_0 : Cond.castable (t_xn 0) (t_xn 0) ∈ lw_tbl ∧ t_gw (Cond.castable (t_xn 0) (t_xn 0)) = true := ⟨List.mem_append_right _ (List.mem_of_getElem? (i := 328) (by decide +kernel)), by decide +kernel⟩
theorem t_cast_1 : Cond.castable (t_xn 1) (t_xn 1) ∈ lw_tbl ∧ t_gw (Cond.castable (t_xn 1) (t_xn 1)) = true := ⟨List.mem_append_right _ (List.mem_of_getElem? (i := 176) (by decide +kernel)), by decide +kernel⟩
theorem t_cast_2 : Cond.castable (t_xn 2) (t_xn 2) ∈ lw_tbl ∧ t_gw (Cond.castable (t_xn 2) (t_xn 2)) = true := ⟨List.mem_append_right _ (List.mem_of_getElem? (i := 308) (by decide +kernel)), by decide +kernel⟩
theorem t_hh_ok : ∀ q ∈ t_M, ∀ z ∈ tm_hh q, ∃ E2, t_lk t_xt (tm_oc q) z.2.2.2 = some E2 := by
  intro q hq z hz
  have h : (t_M.all fun q => (tm_hh q).all fun z => (t_lk t_xt (tm_oc q) z.2.2.2).isSome) = true := by decide +kernel
  have h1 := List.all_eq_true.mp (List.all_eq_true.mp h q hq) z hz
  exact Option.isSome_iff_exists.mp h1
end
section
/-! ===== BEGIN a private method of a nest mate that may throw (follows va_callVN, va_callSN, va_runVN, va_runSN) ===== -/
section
variable {p : Program} {l : Launch} {e : Env} {R : Room} {s : State} {m : MethodId} {args : Array Value} {below : List Frame} {meth : Method} {c : Code} {H : Heap} {locs : List Loc} {cells slots : Nat}
variable {T : State}
theorem vx_callVN (X : Stand p l e R s m args below meth c T locs cells slots) (hexec : p.tables.exec = Jvm.exec) {own C : String} {index : Nat} {host : String} {y : MethodName} {bytes : ByteArray} {maxL : Nat} {ret : Option FieldType}
    (hown : s.vm.findClass own = some m.cls) (hlink : (Cond.methodLinkNest own index y host).before args s = true) (hinst : (Cond.instanceMethod y).before args s = true) (hsel : (Cond.selects C y y).before args s = true)
    (hcode : (Cond.code y bytes maxL ret).before args s = true) (hy : y.cls ≠ "java/lang/invoke/MethodHandle" ∧ y.cls ≠ "java/lang/invoke/VarHandle")
    {W : Nat} {Pre : Pt → Array Value → Prop} {Post : Pt → Array Value → Option Value → Pt → Prop} {PostX : Pt → Array Value → Addr → Pt → Prop} (hK : vx_Back l R p e below s args y 3 W Pre Post PostX)
    {b : Addr} {cellB : Cell} (hcell : T.heap[b]? = some cellB) (hobj : cellB.vm.isStatics = false) (hcls : s.vm.findClass C = some cellB.cls)
    {g : JFrame} (hg : g.method = m) (hsize : g.locals.size = c.maxLocals) {argsL rest : List Value} (hlen : ∀ sig, parseMethodDescriptor y.desc = some sig → argsL.length = sig.parameters.length)
    (hstack : g.stack = argsL.reverse ++ .ref b :: rest) (hW : 2 * g.monitorRoom + (rest.map fun v => v.category).sum ≤ W) (hdg : decode c.code g.pc = .ok (.invokevirtual index, 3))
    (hpre : ∀ vm₁, s.WarmedH vm₁ → Pre ⟨T.setVm vm₁, locs, cells, slots⟩ (Value.ref b :: argsL).toArray) :
    (∃ (v : Option Value) (vm₁ : Vm) (B : Pt), s.WarmedH vm₁ ∧ Stand p l e R s m args below meth c B.U B.locs B.cells B.slots ∧ Post ⟨T.setVm vm₁, locs, cells, slots⟩ (Value.ref b :: argsL).toArray v B ∧
      ∀ target, Steps p.tables e below (B.U.setTop { g with pc := g.pc + 3, stack := v.toList ++ rest }) target → Steps p.tables e below (T.setTop g) target) ∨
    (∃ (q : Addr) (vm₁ : Vm) (B : Pt), s.WarmedH vm₁ ∧ Stand p l e R s m args below meth c B.U B.locs B.cells B.slots ∧ PostX ⟨T.setVm vm₁, locs, cells, slots⟩ (Value.ref b :: argsL).toArray q B ∧
      Steps p.tables e below (T.setTop g) ((B.U.setTop { g with stack := rest }).pushFrame (.throwing q))) := by
  obtain ⟨mk, methM, hnamed, hmethM, hstM, habM⟩ := Cond.instanceMethod_spec hinst
  obtain ⟨methM', cM, hmethM', -, -, -, -, -, -, hsigM⟩ := Cond.code_spec hnamed hcode
  cases hmethM.symm.trans hmethM'
  obtain ⟨c2, r2, m2, q1, q2, q3, q4, kP, hkP, hkPi⟩ := Cond.selects_spec hsel
  cases hcls.symm.trans q1
  cases (State.methodFound?_of_named hnamed hy).symm.trans q2
  cases hnamed.symm.trans q3
  have hselP : selectMethod e.platform s.vm cellB.cls mk = .method mk := by rw [Launch.admits_selectMethod X.admits]; exact q4
  obtain ⟨vm₁, X₁, hstep₁⟩ := X.invokevirtualNest hexec hown hlink hnamed hmethM hstM hkP hkPi hy (a := b) (cell := cellB) hcell
    (fun z h => by rw [h] at hobj; cases hobj) hselP hmethM habM hkP hkPi (g := g) hg (argsL := argsL) (rest := rest) (hlen _ hsigM) hstack hdg
  rcases hK m meth c ⟨T.setVm vm₁, locs, cells, slots⟩ { g with stack := rest } (.invokevirtual index) mk (Value.ref b :: argsL).toArray X₁ hg hsize hdg hW (X₁.named hnamed) (hpre vm₁ X₁.warmed) with ⟨v, B, X', hpost, hsteps⟩ | ⟨q, B, X', hpost, hsteps⟩
  · exact Or.inl ⟨v, vm₁, B, X₁.warmed, X', hpost, fun target h => hstep₁ _ fun acts => by rw [doInvoke_state]; exact hsteps.trans h⟩
  · exact Or.inr ⟨q, vm₁, B, X₁.warmed, X', hpost, hstep₁ _ fun acts => by rw [doInvoke_state]; exact hsteps⟩
theorem vx_callSN (X : Stand p l e R s m args below meth c T locs cells slots) (hexec : p.tables.exec = Jvm.exec) {own : String} {index : Nat} {host : String} {y : MethodName} {bytes : ByteArray} {maxL : Nat} {ret : Option FieldType}
    (hown : s.vm.findClass own = some m.cls) (hlink : (Cond.methodLinkNest own index y host).before args s = true) (hstat : (Cond.static y).before args s = true) (hinit : (Cond.initialized y.cls).before args s = true)
    (hcode : (Cond.code y bytes maxL ret).before args s = true) (hy : y.cls ≠ "java/lang/invoke/MethodHandle" ∧ y.cls ≠ "java/lang/invoke/VarHandle")
    {W : Nat} {Pre : Pt → Array Value → Prop} {Post : Pt → Array Value → Option Value → Pt → Prop} {PostX : Pt → Array Value → Addr → Pt → Prop} (hK : vx_Back l R p e below s args y 3 W Pre Post PostX)
    {g : JFrame} (hg : g.method = m) (hsize : g.locals.size = c.maxLocals) {argsL rest : List Value} (hlen : ∀ sig, parseMethodDescriptor y.desc = some sig → argsL.length = sig.parameters.length)
    (hstack : g.stack = argsL.reverse ++ rest) (hW : 2 * g.monitorRoom + (rest.map fun v => v.category).sum ≤ W) (hdg : decode c.code g.pc = .ok (.invokestatic index, 3))
    (hpre : ∀ vm₁, s.WarmedH vm₁ → Pre ⟨T.setVm vm₁, locs, cells, slots⟩ argsL.toArray) :
    (∃ (v : Option Value) (vm₁ : Vm) (B : Pt), s.WarmedH vm₁ ∧ Stand p l e R s m args below meth c B.U B.locs B.cells B.slots ∧ Post ⟨T.setVm vm₁, locs, cells, slots⟩ argsL.toArray v B ∧
      ∀ target, Steps p.tables e below (B.U.setTop { g with pc := g.pc + 3, stack := v.toList ++ rest }) target → Steps p.tables e below (T.setTop g) target) ∨
    (∃ (q : Addr) (vm₁ : Vm) (B : Pt), s.WarmedH vm₁ ∧ Stand p l e R s m args below meth c B.U B.locs B.cells B.slots ∧ PostX ⟨T.setVm vm₁, locs, cells, slots⟩ argsL.toArray q B ∧
      Steps p.tables e below (T.setTop g) ((B.U.setTop { g with stack := rest }).pushFrame (.throwing q))) := by
  obtain ⟨mk, hnamed⟩ := Cond.code_named hcode
  obtain ⟨methM, cM, hmethM, -, -, -, -, -, -, hsigM⟩ := Cond.code_spec hnamed hcode
  have hstatic : methM.isStatic = true := Cond.static_spec hnamed hmethM hstat
  obtain ⟨kP, hkP, -⟩ := className_of_methodNamed hnamed
  have hinitP : kP.init = .initialized := Cond.initialized_spec (findClass_of_methodNamed hnamed) hkP hinit
  obtain ⟨vm₁, X₁, hstep₁⟩ := X.invokestaticNest hexec hown hlink hnamed hmethM hstatic hkP hinitP hy (g := g) hg (argsL := argsL) (rest := rest) (hlen _ hsigM) hstack hdg
  rcases hK m meth c ⟨T.setVm vm₁, locs, cells, slots⟩ { g with stack := rest } (.invokestatic index) mk argsL.toArray X₁ hg hsize hdg hW (X₁.named hnamed) (hpre vm₁ X₁.warmed) with ⟨v, B, X', hpost, hsteps⟩ | ⟨q, B, X', hpost, hsteps⟩
  · exact Or.inl ⟨v, vm₁, B, X₁.warmed, X', hpost, fun target h => hstep₁ _ fun acts => by rw [doInvoke_state]; exact hsteps.trans h⟩
  · exact Or.inr ⟨q, vm₁, B, X₁.warmed, X', hpost, hstep₁ _ fun acts => by rw [doInvoke_state]; exact hsteps⟩
theorem vx_runVN {y : MethodName} {bytes cc : ByteArray} {maxL nL mc ms n index : Nat} {ret : Option FieldType} {ws : List Cond} {rm : Room} {Pc : Array Value → State → Prop} {Qc : Array Value → State → Outcome → State → Prop} {XC : String → State → State → Prop} {free : Addr → Prop} {Ts : List Cond} {own C host : String} {b : Addr} {As rest : List Value} {g : JFrame}
    (S : CallFix p m c cc nL s args Ts own) (hM : vx_Met l y ws rm Pc Qc XC mc ms free) (cw : va_CN R s args own index y host bytes maxL ret ws rm mc ms n ∧ (Cond.instanceMethod y).before args s = true ∧ (Cond.selects C y y).before args s = true) (hp : PreV s H C b Pc As)
    (hg : g.method = m) (hn : As.length = n) (hsize : g.locals.size = nL) (hstack : g.stack = As.reverse ++ .ref b :: rest) (hW : 2 * g.monitorRoom + (rest.map fun v => v.category).sum ≤ 8) (hdg : decode cc g.pc = .ok (.invokevirtual index, 3)) (hf : cells + mc ≤ R.cells ∧ slots + ms ≤ R.slots) :
    vx_Run p l e R s m args below meth c H locs cells slots mc ms g rest (Qc (Value.ref b :: As).toArray) XC free := by
  obtain ⟨⟨⟨hrc, hrs, hfr, hlo, hws, hcw⟩, hcode, hini, hy, hlen, hl⟩, hx1, hx2⟩ := cw
  have hK : vx_Back l R p e below s args y 3 8 (PreOf R mc ms Pc) (PostOf Qc mc ms free) (vx_Post XC mc ms free) := vx_back (bytes := bytes) (maxL := maxL) (ret := ret) hM hp.1 hrc hrs hfr hlo hws hcw (fun a' U hW => word_at hW (Or.inl (by first | rfl | simp [Cond.onTables, Cond.keeps, Cond.steady])) hini)
  obtain ⟨hx, hb, hml, ho, -⟩ := S
  obtain ⟨-, ⟨cellB, hcB, hoB, hclB⟩, hPc⟩ := hp
  intro T hT X
  rcases vx_callVN X hx (C := C) (bytes := bytes) (maxL := maxL) (ret := ret) ho hl hx1 hx2 hcode hy hK (by rw [hT]; exact hcB) hoB hclB hg (hsize.trans hml.symm) (argsL := As) (rest := rest) (fun sig h => hn.trans (hlen sig h)) hstack hW (by rw [hb]; exact hdg)
    (fun vm₁ hW₁ => ⟨hf.1, hf.2, hPc (T.setVm vm₁) hT hW₁⟩) with ⟨v, vm₁, ⟨U', l2, c2, s2⟩, hW₁, X', ⟨g', mk, t, L, e1, e2, hq, h1, hL, h2, h3⟩, st⟩ | ⟨q, vm₁, ⟨U', l2, c2, s2⟩, hW₁, X', ⟨g', mk, t, L, E, ce, e1, e2, hq, hce, hcv, hcl, h1, hL, h2, h3⟩, st⟩
  · dsimp only [Pt.U, Pt.locs, Pt.cells, Pt.slots] at X' e1 e2 h1 h2 h3 st
    subst h1; subst h2; subst h3
    exact Or.inl ⟨v, (T.setVm vm₁).calling g' mk (Value.ref b :: As).toArray, t, U', L, hT, X', hL, e1, e2, hq, st⟩
  · dsimp only [Pt.U, Pt.locs, Pt.cells, Pt.slots] at X' e1 e2 h1 h2 h3 st hcl
    subst h1; subst h2; subst h3
    exact Or.inr ⟨q, (T.setVm vm₁).calling g' mk (Value.ref b :: As).toArray, t, U', L, E, ce, hT, X', hL, e1, e2, hq, hce, hcv, vx_cls hW₁ hcl, st⟩
theorem vx_runSN {y : MethodName} {bytes cc : ByteArray} {maxL nL mc ms n index : Nat} {ret : Option FieldType} {ws : List Cond} {rm : Room} {Pc : Array Value → State → Prop} {Qc : Array Value → State → Outcome → State → Prop} {XC : String → State → State → Prop} {free : Addr → Prop} {Ts : List Cond} {own host : String} {As rest : List Value} {g : JFrame}
    (S : CallFix p m c cc nL s args Ts own) (hM : vx_Met l y ws rm Pc Qc XC mc ms free) (cw : va_CN R s args own index y host bytes maxL ret ws rm mc ms n ∧ (Cond.static y).before args s = true ∧ True) (hp : PreS s H Pc As)
    (hg : g.method = m) (hn : As.length = n) (hsize : g.locals.size = nL) (hstack : g.stack = As.reverse ++ rest) (hW : 2 * g.monitorRoom + (rest.map fun v => v.category).sum ≤ 8) (hdg : decode cc g.pc = .ok (.invokestatic index, 3)) (hf : cells + mc ≤ R.cells ∧ slots + ms ≤ R.slots) :
    vx_Run p l e R s m args below meth c H locs cells slots mc ms g rest (Qc As.toArray) XC free := by
  obtain ⟨⟨⟨hrc, hrs, hfr, hlo, hws, hcw⟩, hcode, hini, hy, hlen, hl⟩, hx1, hx2⟩ := cw
  have hK : vx_Back l R p e below s args y 3 8 (PreOf R mc ms Pc) (PostOf Qc mc ms free) (vx_Post XC mc ms free) := vx_back (bytes := bytes) (maxL := maxL) (ret := ret) hM hp.1 hrc hrs hfr hlo hws hcw (fun a' U hW => word_at hW (Or.inl (by first | rfl | simp [Cond.onTables, Cond.keeps, Cond.steady])) hini)
  obtain ⟨hx, hb, hml, ho, -⟩ := S
  have hPc := hp.2
  intro T hT X
  rcases vx_callSN X hx (bytes := bytes) (maxL := maxL) (ret := ret) ho hl hx1 hini hcode hy hK hg (hsize.trans hml.symm) (argsL := As) (rest := rest) (fun sig h => hn.trans (hlen sig h)) hstack hW (by rw [hb]; exact hdg)
    (fun vm₁ hW₁ => ⟨hf.1, hf.2, hPc (T.setVm vm₁) hT hW₁⟩) with ⟨v, vm₁, ⟨U', l2, c2, s2⟩, hW₁, X', ⟨g', mk, t, L, e1, e2, hq, h1, hL, h2, h3⟩, st⟩ | ⟨q, vm₁, ⟨U', l2, c2, s2⟩, hW₁, X', ⟨g', mk, t, L, E, ce, e1, e2, hq, hce, hcv, hcl, h1, hL, h2, h3⟩, st⟩
  · dsimp only [Pt.U, Pt.locs, Pt.cells, Pt.slots] at X' e1 e2 h1 h2 h3 st
    subst h1; subst h2; subst h3
    exact Or.inl ⟨v, (T.setVm vm₁).calling g' mk As.toArray, t, U', L, hT, X', hL, e1, e2, hq, st⟩
  · dsimp only [Pt.U, Pt.locs, Pt.cells, Pt.slots] at X' e1 e2 h1 h2 h3 st hcl
    subst h1; subst h2; subst h3
    exact Or.inr ⟨q, (T.setVm vm₁).calling g' mk As.toArray, t, U', L, E, ce, hT, X', hL, e1, e2, hq, hce, hcv, vx_cls hW₁ hcl, st⟩
end
/-! ===== END ===== -/
end
section
/-! ===== what the small machine says holds of the machine ===== -/
/-- an end with an answer: the instruction and the answer -/
def t_ri (q : tM) (ins : Instr) (v : Option Value) : Prop :=
  (∃ x, ins = .ireturn ∧ v = some (.int x) ∧ (tm_rt q = some .int ∨ (tm_rt q = some .boolean ∧ (x = 0 ∨ x = 1)))) ∨ (∃ x, ins = .lreturn ∧ v = some (.long x) ∧ tm_rt q = some .long) ∨
  (∃ w, ins = .areturn ∧ v = some w ∧ (w = .null ∨ ∃ a, w = .ref a) ∧ ∃ C, tm_rt q = some (.object C)) ∨ (ins = .return_ ∧ v = none ∧ tm_rt q = none)
/-- how a method's ends serve what comes behind -/
def t_Fin (g : tE) (q : tM) (mi : Nat) (p : Program) (l : Launch) (e : Env) (R : Room) (s : State) (m : MethodId) (args : Array Value) (below : List Frame) (meth : Method) (c : Code) (e0 : Nat) (o : tO) (h' : tH) (Qw : State → Prop) : Prop := match o with
  | .inl v => ∀ (pc1 : Nat) (ins : Instr) (H : Heap) (locs : List Loc) (lsA : Array Slot), t_Wd g h' H → va_S g.2.2.2.1 s.heap H locs → t_ri q ins v → decode (tm_by q) pc1 = .ok (ins, 1) →
      W p l e R s m args below meth c H locs (h'.2.2.2 - e0) (6 * (h'.2.2.2 - e0)) Qw (F0 m pc1 lsA (v.map (t_cv g)).toList)
  | .inr E => (∀ (pc1 : Nat) (lsA : Array Slot) (rest : List Value) (H : Heap) (locs : List Loc) (q9 : Addr) (ce : Cell), t_Wd g h' H → va_S g.2.2.2.1 s.heap H locs → H[q9]? = some ce → ce.vm = .none → s.vm.findClass (t_xn E) = some ce.cls → E < 3 → t_hd (tm_oc q) pc1 E (tm_hh q) = none →
      vx_W p l e R s m args below meth c H locs (h'.2.2.2 - e0) (6 * (h'.2.2.2 - e0)) Qw (F0 m pc1 lsA rest) q9) ∧
    (∀ (pc1 i len : Nat) (lsA : Array Slot) (H : Heap) (locs : List Loc) (h1 : tH), h' = t_X h1 → e0 ≤ h1.2.2.2 → t_Wd g h1 H → va_S g.2.2.2.1 s.heap H locs → lsA.size = tm_ml q → tm_hh q = [] → t_lk t_tt mi pc1 = some E →
      W p l e R s m args below meth c H locs (h1.2.2.2 - e0) (6 * (h1.2.2.2 - e0)) Qw (F0 m pc1 lsA []))
/-- the places may change in one method alone: that of the row which it makes -/
def t_al (mi : Nat) (g g' : tE) : Prop := g' = g ∨ (mi = t_SH ∧ g'.2 = g.2 ∧ ∀ k, k ≠ 35 → g'.1 k = g.1 k)
theorem t_al_r (mi : Nat) (g : tE) : t_al mi g g := Or.inl rfl
theorem t_al_t {mi : Nat} {g g1 g2 : tE} (a : t_al mi g g1) (b : t_al mi g1 g2) : t_al mi g g2 := by
  rcases b with rfl | ⟨b1, b2, b3⟩
  · exact a
  · rcases a with rfl | ⟨a1, a2, a3⟩
    · exact Or.inr ⟨b1, b2, b3⟩
    · exact Or.inr ⟨b1, b2.trans a2, fun k hk => (b3 k hk).trans (a3 k hk)⟩
theorem t_al_2 {mi : Nat} {g g' : tE} (a : t_al mi g g') : g'.2 = g.2 := by
  rcases a with rfl | a
  · rfl
  · exact a.2.1
theorem t_ob_56 {k c : Nat} (h : t_ob k = some c) (hc : 5 ≤ c) : 40 ≤ k := by
  unfold t_ob at h
  repeat' split at h
  all_goals first | omega | (cases h; omega) | (cases h; done)
theorem t_rv_ne {ci sl k j : Nat} (ho : t_ob k = some ci) (h : t_rv ci sl k = .ref j) : j ≠ 35 := by
  unfold t_rv at h
  split at h <;> first | (cases h; decide) | (cases h; done) | (cases h; have := t_ob_56 ho (by decide); omega)
theorem t_cv_al {g g' : tE} (h1 : ∀ k, k ≠ 35 → g'.1 k = g.1 k) {v : Value} (hv : ∀ j, v = .ref j → j ≠ 35) : t_cv g' v = t_cv g v := by
  cases v with
  | ref j => show Value.ref (g'.1 j) = .ref (g.1 j); rw [h1 j (hv j rfl)]
  | _ => rfl
/-- a world's cells at other places, the row 35 aside -/
theorem t_ce_al {g g' : tE} (h2 : g'.2 = g.2) (h1 : ∀ k, k ≠ 35 → g'.1 k = g.1 k) (h : tH) (k : Nat) : t_ce g' h k = t_ce g h k := by
  unfold t_ce
  rw [h2]
  cases ho : t_ob k with
  | some ci =>
    dsimp only
    refine congrArg (fun l => (Sum.inr (ci, l) : va_E)) (List.ext_getElem? fun i => ?_)
    rw [List.getElem?_mapIdx, List.getElem?_mapIdx]
    cases ht : (t_ft ci)[i]? with
    | none => rfl
    | some ty =>
      rw [Option.map_some, Option.map_some]
      refine congrArg some (t_cv_al h1 fun j hj => ?_)
      unfold t_fv at hj
      split at hj <;> first | (cases hj; done) | exact t_rv_ne ho hj
  | none =>
    dsimp only
    have hq : (fun i : Nat => some (g'.1 (40 + i))) = fun i : Nat => some (g.1 (40 + i)) := funext fun i => by rw [h1 _ (by omega)]
    rw [hq]
/-- the row is left behind -/
theorem t_Wd_dr {mi : Nat} {g g' : tE} (a : t_al mi g g') {h : tH} {H : Heap} (hW : t_Wd g' h H) : t_Wd g (t_dr h) H := by
  have h2 := t_al_2 a
  have h1 : ∀ k, k ≠ 35 → g'.1 k = g.1 k := by
    rcases a with rfl | a
    · exact fun _ _ => rfl
    · exact a.2.2
  obtain ⟨w1, w2, w3, -⟩ := hW
  rw [h2] at w1 w2 w3
  refine ⟨fun q x hx => w1 q x ?_, w2, w3, fun hf => absurd (show (0 : Int32) = 1 from hf) (by decide)⟩
  unfold th_ws at hx ⊢
  have hn : t_xc g (t_dr h) = [] := if_neg (show ¬ (0 : Int32) = 1 by decide)
  rw [hn, List.append_nil, List.getElem?_map] at hx
  cases hk : t_ids[q]? with
  | none => rw [hk] at hx; cases hx
  | some k =>
    rw [hk] at hx
    have hi := t_ids_35 k (List.mem_of_getElem? hk)
    rw [List.getElem?_append_left (by rw [List.length_map]; exact (List.getElem?_eq_some_iff.mp hk).1), List.getElem?_map, hk, Option.map_some, t_ce_al h2 h1, h1 k hi.1, ← hx, Option.map_some]
    have := t_ce_i (g := g) (h := h) (h' := t_dr h) (List.mem_of_getElem? hk) (fun j _ j2 => by funext b; exact if_neg fun z => j2 z.1) rfl
    rw [this]
theorem t_Wd_dc {mi : Nat} {g g' : tE} (a : t_al mi g g') {h : tH} {H : Heap} (hW : t_Wd g' h H) : t_Wd g (t_dc mi h) H := by
  by_cases hm : mi = t_SH
  · rw [show t_dc mi h = t_dr h from if_pos hm]
    exact t_Wd_dr a hW
  · rw [show t_dc mi h = h from if_neg hm]
    rcases a with rfl | a
    · exact hW
    · exact absurd a.1 hm
theorem t_dc_n (mi : Nat) (h : tH) : (t_dc mi h).2.2.2 = h.2.2.2 := by
  unfold t_dc
  split <;> rfl
def t_Sem (l : Launch) (g : tE) : tR := fun d mi pc ls st h o h' => h.2.2.2 ≤ h'.2.2.2 ∧ ∀ (q : tM) (p : Program) (e : Env) (R : Room) (s : State) (m : MethodId) (args : Array Value) (below : List Frame) (meth : Method) (c : Code) (e0 : Nat) (Qw : State → Prop),
  t_M[mi]? = some q → t_Cx g q p s m meth c → d + 10 ≤ R.frames → 40 * d + 200 ≤ R.locals → e0 ≤ h.2.2.2 → h'.2.2.2 - e0 ≤ R.cells → 6 * (h'.2.2.2 - e0) ≤ R.slots → (∀ g', t_al mi g g' → t_Fin g' q mi p l e R s m args below meth c e0 o h' Qw) →
  ∀ (H : Heap) (locs : List Loc) (lsA : Array Slot), t_Wd g h H → va_S g.2.2.2.1 s.heap H locs → t_lr g ls lsA (tm_ml q) → W p l e R s m args below meth c H locs (h.2.2.2 - e0) (6 * (h.2.2.2 - e0)) Qw (F0 m pc lsA (st.map (t_cv g)))
def th_Pc (g : tE) (as : List Value) (h : tH) : Array Value → State → Prop := fun a U => a = (as.map (t_cv g)).toArray ∧ t_En g U U.heap ∧ t_Wd g h U.heap ∧ t_Gd g ∧ ∀ x : Nat, U.heap.size ≤ x → g.2.2.2.1 x
def th_Qc (g : tE) (o1 : tO) (h1 : tH) : Array Value → State → Outcome → State → Prop := fun _ st o t => (∃ v, o1 = .inl v ∧ o = .returned (v.map (t_cv g)) ∧ t_Wd g h1 t.heap) ∧ va_F g.2.2.2.1 st t
def th_XC (g : tE) (o1 : tO) (h1 : tH) : String → State → State → Prop := fun E st t => (∃ n, o1 = .inr n ∧ n < 3 ∧ E = t_xn n ∧ t_Wd g h1 t.heap) ∧ va_F g.2.2.2.1 st t
def t_rm (d k : Nat) : Room := { frames := d + 10, cells := k, slots := 6 * k, locals := 40 * d + 200 }
theorem th_Pc_blind (g : tE) (as : List Value) (h : tH) : FrameBlind (th_Pc g as h) := by
  intro a U gf mk hh
  obtain ⟨h1, h2, h3, h4, h5⟩ := hh
  exact ⟨h1, t_En.moved (U := U.calling gf mk a) h2 h4 (State.WarmedH.refl U) (fun _ _ _ => rfl), h3, h4, h5⟩
theorem t_hd_none {oc pc E : Nat} : ∀ (hh : List (Nat × Nat × Nat × Nat)), t_hd oc pc E hh = none → ∀ z ∈ hh, ¬ (z.1 ≤ pc ∧ pc < z.2.1 ∧ t_lk t_xt oc z.2.2.2 = some E)
  | [], _, z, hz => by cases hz
  | (a, b, hp, ct) :: l, h, z, hz => by
    unfold t_hd at h
    split at h
    · cases h
    · next hc =>
      rcases List.mem_cons.mp hz with rfl | hz
      · exact hc
      · exact t_hd_none l h z hz
theorem t_hd_some {oc pc E hp : Nat} : ∀ (hh : List (Nat × Nat × Nat × Nat)), t_hd oc pc E hh = some hp → ∃ pre x suf, hh = pre ++ x :: suf ∧ x.2.2.1 = hp ∧ (x.1 ≤ pc ∧ pc < x.2.1 ∧ t_lk t_xt oc x.2.2.2 = some E) ∧ ∀ z ∈ pre, ¬ (z.1 ≤ pc ∧ pc < z.2.1 ∧ t_lk t_xt oc z.2.2.2 = some E)
  | [], h => by cases h
  | (a, b, hp', ct) :: l, h => by
    unfold t_hd at h
    split at h
    · next hc => cases h; exact ⟨[], _, l, rfl, rfl, hc, fun z hz => by cases hz⟩
    · next hc =>
      obtain ⟨pre, x, suf, h1, h2, h3, h4⟩ := t_hd_some l h
      refine ⟨(a, b, hp', ct) :: pre, x, suf, by rw [h1]; rfl, h2, h3, fun z hz => ?_⟩
      rcases List.mem_cons.mp hz with rfl | hz
      · exact hc
      · exact h4 z hz
/-- a row of the table that doesn't take it -/
theorem t_pass {g : tE} {q : tM} {p : Program} {s : State} {m : MethodId} {args : Array Value} {meth : Method} {c : Code} (C : t_Cx g q p s m meth c) {mi : Nat} (hq : t_M[mi]? = some q) {pc E : Nat} (hE : E < 3) {z : Nat × Nat × Nat × Nat} (hz : z ∈ tm_hh q)
    (hn : ¬ (z.1 ≤ pc ∧ pc < z.2.1 ∧ t_lk t_xt (tm_oc q) z.2.2.2 = some E)) : covers ⟨z.1, z.2.1, z.2.2.1, z.2.2.2⟩ pc = false ∨ ((⟨z.1, z.2.1, z.2.2.1, z.2.2.2⟩ : ExceptionTableEntry).catchType ≠ 0 ∧ ∃ nm : String, (Cond.classLink (t_cn (tm_oc q)) (⟨z.1, z.2.1, z.2.2.1, z.2.2.2⟩ : ExceptionTableEntry).catchType nm).before args s = true ∧ va_Nc (t_xn E) nm s) := by
  obtain ⟨hx, hb, hml, hown, hlocks, hrt, htab, hEn, hG, hA⟩ := C
  by_cases hc : z.1 ≤ pc ∧ pc < z.2.1
  · obtain ⟨E2, h2⟩ := t_hh_ok q (List.mem_of_getElem? hq) z hz
    obtain ⟨e1, e2, e3⟩ := t_eok _ (t_lk_mem _ _ _ _ h2)
    refine Or.inr ⟨e2, t_xn E2, hEn.word e3 rfl, hEn.2.2.2.2.2.2.1 E E2 hE e1 (fun z9 => hn ⟨hc.1, hc.2, ?_⟩)⟩
    rw [z9]; exact h2
  · refine Or.inl ?_
    cases hcv : covers ⟨z.1, z.2.1, z.2.2.1, z.2.2.2⟩ pc with
    | false => rfl
    | true =>
      refine absurd ?_ hc
      simpa [covers] using hcv
/-- a method's ends, out of its contract's end -/
theorem t_fin {g : tE} {l : Launch} (hl : l.stackTraces = false) {q : tM} {mi : Nat} (hq : t_M[mi]? = some q) {p : Program} {e : Env} {R : Room} {s : State} {m : MethodId} {args : Array Value} {below : List Frame} {meth : Method} {c : Code} (C : t_Cx g q p s m meth c) {e0 : Nat} {o : tO} {h' : tH} (hso : mi = t_SH → ∃ x, o = .inl (some (.int x))) {g' : tE} (hal : t_al mi g g')
    (hR1 : 10 ≤ R.frames) (hR2 : 200 ≤ R.locals) (hR3 : h'.2.2.2 - e0 ≤ R.cells) (hR4 : 6 * (h'.2.2.2 - e0) ≤ R.slots) :
    t_Fin g' q mi p l e R s m args below meth c e0 o h' (vx_MQ below (th_Qc g o (t_dc mi h')) (th_XC g o (t_dc mi h')) args s (h'.2.2.2 - e0) (6 * (h'.2.2.2 - e0)) g.2.2.2.1) := by
  have C0 := C
  obtain ⟨hx, hb, hml, hown, hlocks, hrt, htab, hEn, hG, hA⟩ := C
  unfold t_Fin
  cases o with
  | inl v =>
    dsimp only
    intro pc1 ins H locs lsA hW hS hri hd
    have hW := t_Wd_dc hal hW
    have hA9 : g'.2.2.2.1 = g.2.2.2.1 := by rw [t_al_2 hal]
    rw [hA9] at hS
    refine vx_ret ?_
    rcases hri with ⟨x, rfl, rfl, hr⟩ | ⟨x, rfl, rfl, hr⟩ | ⟨w, rfl, rfl, hw, C9, hr⟩ | ⟨rfl, rfl, hr⟩
    · rcases hr with hr | ⟨hr, hx01⟩
      · exact W.iret (v := x) hx hb (hrt.trans hr) (fun t ht _ => ⟨⟨_, rfl, rfl, by rw [ht]; exact hW⟩, hS.F ht⟩) hS.2.2 hd hlocks
      · exact W.zret (v := x) hx hb (hrt.trans hr) (t_nar_z hx01).2.1 (fun t ht _ => ⟨⟨_, rfl, rfl, by rw [ht]; exact hW⟩, hS.F ht⟩) hS.2.2 hd hlocks
    · exact W.lret (v := x) hx hb (hrt.trans hr) (fun t ht _ => ⟨⟨_, rfl, rfl, by rw [ht]; exact hW⟩, hS.F ht⟩) hS.2.2 hd hlocks
    · have hg9 : g' = g := by
        rcases hal with h9 | h9
        · exact h9
        · obtain ⟨x, hx9⟩ := hso h9.1
          cases hx9
          rcases hw with hw | ⟨a, hw⟩ <;> cases hw
      subst hg9
      exact W.aret (v := t_cv g' w) hx hb (hrt.trans hr) (Or.inl ⟨C9, rfl⟩) (by rcases hw with rfl | ⟨a, rfl⟩; exact Or.inl rfl; exact Or.inr ⟨_, rfl⟩) (fun t ht _ => ⟨⟨_, rfl, rfl, by rw [ht]; exact hW⟩, hS.F ht⟩) hS.2.2 hd hlocks
    · exact W.vret hx hb (hrt.trans hr) (fun t ht _ => ⟨⟨_, rfl, rfl, by rw [ht]; exact hW⟩, hS.F ht⟩) hS.2.2 hd hlocks
  | inr E =>
    dsimp only
    have hm9 : mi ≠ t_SH := fun z => by
      obtain ⟨x, hx9⟩ := hso z
      cases hx9
    have hg9 : g = g' := by
      rcases hal with h9 | h9
      · exact h9.symm
      · exact absurd h9.1 hm9
    subst hg9
    rw [show t_dc mi h' = h' from if_neg hm9]
    refine ⟨fun pc1 lsA rest H locs q9 ce hW hS hce hv hcl hE hn => ?_, fun pc1 i len lsA H locs h1 e1 he0 hW hS hsz hh htt => ?_⟩
    · refine vx_outP hown hlocks (fun z hz => ?_) hce hv hcl (fun t ht _ => ⟨⟨E, rfl, hE, rfl, by rw [ht]; exact hW⟩, hS.F ht⟩) hS.2.2 (Nat.le_refl _) (Nat.le_refl _)
      rw [htab] at hz
      unfold tableOf at hz
      obtain ⟨y, hy, rfl⟩ := List.mem_map.mp hz
      exact t_pass C0 hq hE hy (t_hd_none _ hn y hy)
    · obtain ⟨ik, is, ic, text, hE3, hst, hk, hini, hat, d0, d3, hds⟩ := t_tok _ (t_lk_mem _ _ _ _ htt) q hq
      dsimp only at hE3 hst hk hini hat d0 d3 hds
      obtain ⟨sa, hsa⟩ := hEn.2.2.1 _ hst
      have hno : ∀ z ∈ c.exceptionTable.toList, False := fun z hz => by rw [htab, hh] at hz; cases hz
      have hfit : Bundle.fit (t_xn E) = true := by
        match E, hE3 with
        | 0, _ => decide +kernel
        | 1, _ => decide +kernel
        | 2, _ => decide +kernel
      have hfn : ∀ n ∈ ["java/lang/RuntimeException", "java/lang/Exception"], Bundle.fit n = true := by decide +kernel
      have hot : ∀ {w : Cond}, t_gw w = true → vx_ot w = true := fun hg => by unfold vx_ot; rw [t_gw_on hg]; rfl
      have hgood : ∀ w ∈ Cond.classLink (t_cn (tm_oc q)) ik (t_xn E) :: Cond.initialized (t_xn E) :: vx_atS (t_cn (tm_oc q)) ic (t_xn E) ["java/lang/RuntimeException", "java/lang/Exception"], vx_ot w = true := by
        intro w hw
        rcases List.mem_cons.mp hw with rfl | hw
        · rfl
        · rcases List.mem_cons.mp hw with rfl | hw
          · rfl
          · exact hot (hat w hw).2
      have hcs : h1.2.2.2 - e0 + 1 = h'.2.2.2 - e0 := by rw [e1]; show _ = h1.2.2.2 + 1 - e0; omega
      have hXC : ∀ t : State, s.vm.Alike t.vm → H.size ≤ t.heap.size → (∀ q : Nat, q < H.size → t.heap[q]? = H[q]?) → th_XC g (.inr E) h' (t_xn E) s t := by
        intro t _ hz hk9
        refine ⟨⟨E, rfl, hE3, rfl, ?_⟩, ⟨Nat.le_trans hS.1 hz, fun x h1 h2 => by rw [hk9 x (Nat.lt_of_lt_of_le h1 hS.1)]; exact hS.2.1 x h1 h2⟩⟩
        subst e1
        exact ⟨hW.1.kept (fun k9 q9 hq9 => hk9 _ (hW.1 k9 q9 hq9).lt), hW.2.1, hW.2.2⟩
      rcases hds with ⟨d4, d6, d9⟩ | ⟨d4, d7, d10⟩
      · exact vx_throwS hx hb hl hown hfit hfn (hEn.word hk rfl) (hEn.word hini rfl) hsa (fun w hw => hEn.word (hat w hw).1 (hat w hw).2) hgood hEn.2.2.2.1 hEn.2.2.2.2.1 hS (hsz.trans hml.symm) d0 d3 d4 d6 d9 (fun z hz => (hno z hz).elim)
          (by show 2 + 3 < _; omega) (by show 0 + (13 * (2 + 1) + 43) ≤ _; omega) (by omega) (by omega) hlocks hXC hS.2.2 (by omega) (by omega)
      · exact vx_throwSW hx hb hl hown hfit hfn (hEn.word hk rfl) (hEn.word hini rfl) hsa (fun w hw => hEn.word (hat w hw).1 (hat w hw).2) hgood hEn.2.2.2.1 hEn.2.2.2.2.1 hS (hsz.trans hml.symm) d0 d3 d4 d7 d10 (fun z hz => (hno z hz).elim)
          (by show 2 + 3 < _; omega) (by show 0 + (13 * (2 + 1) + 43) ≤ _; omega) (by omega) (by omega) hlocks hXC hS.2.2 (by omega) (by omega)
/-- the words of a method's own: its code -/
def t_wsm (q : tM) : List Cond := [match tm_hh q with
  | [] => Cond.code (tm_y q) (tm_by q) (tm_ml q) (tm_rt q)
  | z :: l => Cond.codeWith (tm_y q) (tm_by q) (tm_ml q) (tm_rt q) (z :: l)]
/-- a method's contract, out of what the small machine says of its run -/
theorem t_met {l : Launch} (hl : l.stackTraces = false) {g : tE} {ci : Nat} {qc : tM} (hq : t_M[ci]? = some qc) (hci : ci < 114) {as : List Value} {h : tH} {o1 : tO} {h1 : tH} (has : (t_sl as).length ≤ tm_ml qc)
    (hS : t_Sem l g (t_lev qc as) ci 0 (t_ini as (tm_ml qc)) [] h o1 h1) (hso : ci = t_SH → ∃ x, o1 = .inl (some (.int x))) :
    vx_Met l (tm_y qc) (t_wsm qc) (t_rm (t_lev qc as) (h1.2.2.2 - h.2.2.2)) (th_Pc g as h) (th_Qc g o1 (t_dc ci h1)) (th_XC g o1 (t_dc ci h1)) (h1.2.2.2 - h.2.2.2) (6 * (h1.2.2.2 - h.2.2.2)) g.2.2.2.1 := by
  obtain ⟨k1, k2, k3, k4, k5, k6, k7, k8, k9, k10, k11⟩ := t_mok hq hci
  have body : ∀ p e s m args below meth c s₁, BodyLoose p l (tm_y qc) (headSpec (t_wsm qc) (t_rm (t_lev qc as) (h1.2.2.2 - h.2.2.2))) (tm_by qc) (tm_ml qc) (tm_rt qc) e s m args below meth c s₁ → c.maxLocals = tm_ml qc → c.exceptionTable.toList = tableOf (tm_hh qc) → th_Pc g as h args s →
      W p l e (t_rm (t_lev qc as) (h1.2.2.2 - h.2.2.2)) s m args below meth c s.heap [] 0 0 (vx_MQ below (th_Qc g o1 (t_dc ci h1)) (th_XC g o1 (t_dc ci h1)) args s (h1.2.2.2 - h.2.2.2) (6 * (h1.2.2.2 - h.2.2.2)) g.2.2.2.1) (entryFrame m args (tm_ml qc)) := by
    intro p e s m args below meth c s₁ B hml htab hv
    obtain ⟨rfl, hEn, hWd, hG, hA⟩ := hv
    have C : t_Cx g qc p s m meth c := ⟨B.exec, B.bytes, hml, by rw [← k7]; exact findClass_of_methodNamed B.named, B.notSynchronized, B.returns, htab, hEn, hG, hA⟩
    have hF := fun g' hal => t_fin (g' := g') (R := t_rm (t_lev qc as) (h1.2.2.2 - h.2.2.2)) (e := e) (args := (as.map (t_cv g)).toArray) (below := below) (o := o1) hl hq C (e0 := h.2.2.2) (h' := h1) hso hal (by show 10 ≤ _ + 10; omega) (by show 200 ≤ _ + 200; omega) (Nat.le_refl _) (Nat.le_refl _)
    have hW := hS.2 qc p e (t_rm (t_lev qc as) (h1.2.2.2 - h.2.2.2)) s m (as.map (t_cv g)).toArray below meth c h.2.2.2 _ hq C (Nat.le_refl _) (Nat.le_refl _) (Nat.le_refl _) (Nat.le_refl _) (Nat.le_refl _) hF s.heap [] _ hWd va_S.rf (t_lr_entry has)
    rw [Nat.sub_self] at hW
    rw [lg_entry_eq]
    exact hW
  cases hh : tm_hh qc with
  | nil =>
    have hws : t_wsm qc = Cond.code (tm_y qc) (tm_by qc) (tm_ml qc) (tm_rt qc) :: [] := by unfold t_wsm; rw [hh]
    refine vx_ofW k5 hws ?_
    intro p e s m args below meth c s₁ B hml hno hv
    refine body p e s m args below meth c s₁ B hml ?_ hv
    rw [hh]
    cases hl9 : c.exceptionTable.toList with
    | nil => rfl
    | cons a b => exact (hno a (by rw [hl9]; exact List.mem_cons_self)).elim
  | cons z zs =>
    have hws : t_wsm qc = Cond.codeWith (tm_y qc) (tm_by qc) (tm_ml qc) (tm_rt qc) (tm_hh qc) :: [] := by unfold t_wsm; rw [hh]
    refine vx_ofWH k5 hws ?_
    intro p e s m args below meth c s₁ B hml hv
    refine body p e s m args below meth c s₁ B hml ?_ hv
    exact vx_table (x := tm_y qc) B (atoms_spec (ws := t_wsm qc) B.pre _ (by rw [hws]; exact List.mem_cons_self))
theorem t_catsum (g : tE) (st : List Value) : ((st.map (t_cv g)).map fun v => v.category).sum = (st.map Value.category).sum := by rw [List.map_map]; exact congrArg List.sum (List.map_congr_left fun v _ => t_cv_cat g v)
/-- a call, run -/
theorem t_run {l : Launch} (hl : l.stackTraces = false) {g : tE} {q : tM} {p : Program} {e : Env} {R : Room} {s : State} {m : MethodId} {args : Array Value} {below : List Frame} {meth : Method} {c : Code} (C : t_Cx g q p s m meth c) {ci i d pc : Nat} {qc : tM} {ins : Instr} {stat : Bool}
    (hd : decode (tm_by q) pc = .ok (ins, 3)) (hi : (ins = .invokevirtual i ∧ stat = false) ∨ (ins = .invokestatic i ∧ stat = true)) (hct : t_lk t_ct (tm_oc q) i = some ci) (hqc : t_M[ci]? = some qc) (hst : tm_st qc = stat) {as rest : List Value} (hna : as.length = tm_na qc) (hw : (rest.map Value.category).sum ≤ 8)
    (hrc : stat = false → ∃ k, as.head? = some (.ref k) ∧ ∃ cj, t_ob k = some cj ∧ t_oci (tm_oc qc) = some cj) (has : (t_sl as).length ≤ tm_ml qc) (hlev : t_lev qc as < d) (hR1 : d + 10 ≤ R.frames) (hR2 : 40 * d + 200 ≤ R.locals) {h : tH} {o1 : tO} {h1 : tH}
    (hS : t_Sem l g (t_lev qc as) ci 0 (t_ini as (tm_ml qc)) [] h o1 h1) (hso : ci = t_SH → ∃ x, o1 = .inl (some (.int x))) {H : Heap} {locs : List Loc} {lsA : Array Slot} (hWd : t_Wd g h H) (hSS : va_S g.2.2.2.1 s.heap H locs) (hsz : lsA.size = tm_ml q) {cells slots : Nat} (hc : cells + (h1.2.2.2 - h.2.2.2) ≤ R.cells) (hs : slots + 6 * (h1.2.2.2 - h.2.2.2) ≤ R.slots) :
    vx_Run p l e R s m args below meth c H locs cells slots (h1.2.2.2 - h.2.2.2) (6 * (h1.2.2.2 - h.2.2.2)) (F0 m pc lsA ((as.reverse ++ rest).map (t_cv g))) (rest.map (t_cv g)) (th_Qc g o1 (t_dc ci h1) (as.map (t_cv g)).toArray) (th_XC g o1 (t_dc ci h1)) g.2.2.2.1 := by
  have hlt : ci < 114 := (t_lok _ (t_lk_mem _ _ _ _ hct)).1
  have hlk := (t_lok _ (t_lk_mem _ _ _ _ hct)).2 qc hqc
  dsimp only at hlk
  have hM := t_met hl hqc hlt has hS hso
  obtain ⟨k1, k2, k3, k4, k5, k6, k7, k8, k9, k10, k11⟩ := t_mok hqc hlt
  obtain ⟨hx, hb, hml, hown, hlocks, hrt, htab, hEn, hG, hA⟩ := C
  have hPc : ∀ U : State, U.heap = H → s.WarmedH U.vm → th_Pc g as h (as.map (t_cv g)).toArray U := fun U hU hWm => ⟨rfl, by rw [hU]; exact hEn.moved hG hWm (fun x h1 h2 => hSS.2.1 x h1 h2), by rw [hU]; exact hWd, hG, fun x hx9 => hA x (Nat.le_trans (by rw [hU]; exact hSS.1) hx9)⟩
  have hfr : (t_rm (t_lev qc as) (h1.2.2.2 - h.2.2.2)).frames + 1 ≤ R.frames := by show _ + 10 + 1 ≤ _; omega
  have hlo : 8 + (tm_ml qc + 11) + (t_rm (t_lev qc as) (h1.2.2.2 - h.2.2.2)).locals ≤ R.locals := by show _ + (40 * _ + 200) ≤ _; omega
  have hF : CallFix p m c (tm_by q) (tm_ml q) s args [] (t_cn (tm_oc q)) := ⟨hx, hb, hml, hown, fun w hw => by cases hw⟩
  have hroom : 2 * (F0 m pc lsA ((as.reverse ++ rest).map (t_cv g))).monitorRoom + ((rest.map (t_cv g)).map fun v => v.category).sum ≤ 8 := lv_room (by rw [t_catsum]; exact hw)
  by_cases hh : tm_hh qc = []
  · have hcode := k1 hh
    have hws : t_wsm qc = Cond.code (tm_y qc) (tm_by qc) (tm_ml qc) (tm_rt qc) :: [] := by unfold t_wsm; rw [hh]
    have hwsw : ∀ w ∈ t_wsm qc, ∀ (a' : Array Value) (U : State), s.WarmedH U.vm → w.before a' U = true := by
      intro w hw9 a' U hWm
      rw [hws] at hw9
      rcases List.mem_cons.mp hw9 with rfl | hw9
      · exact word_at hWm (Or.inl rfl) (hEn.word (args := args) hcode rfl)
      · cases hw9
    have hpar : ∀ sig, parseMethodDescriptor (tm_y qc).desc = some sig → as.length - (if tm_st qc = true then 0 else 1) = sig.parameters.length := by
      intro sig hsig
      rw [hsig, Option.map_some] at k6
      have := Option.some.inj k6
      omega
    cases stat with
    | false =>
      obtain ⟨rfl, -⟩ := hi.resolve_right (fun z => by cases z.2)
      obtain ⟨k, hk1, cj, hob, hoj⟩ := hrc rfl
      obtain ⟨Tn, Nn, hcl⟩ := k8 cj hoj
      obtain ⟨hinst, hsel⟩ := k9 hst
      obtain ⟨as', rfl⟩ : ∃ as', as = .ref k :: as' := by
        cases as with
        | nil => cases hk1
        | cons a l => cases hk1; exact ⟨l, rfl⟩
      obtain ⟨q0, hq0, hw0⟩ := th_ws_get g h (t_ids_ob hob)
      rw [t_ce_o hob] at hw0
      have hrecv := va_recv hEn.1 hWd.1 hcl hw0
      have hp : PreV s H (tm_y qc).cls (g.1 k) (th_Pc g (.ref k :: as') h) (as'.map (t_cv g)) := ⟨th_Pc_blind _ _ _, hrecv, hPc⟩
      have hpar' : ∀ sig, parseMethodDescriptor (tm_y qc).desc = some sig → as'.length = sig.parameters.length := by
        intro sig hsig
        have := hpar sig hsig
        rw [hst] at this
        simpa using this
      have hstk : (F0 m pc lsA (((Value.ref k :: as').reverse ++ rest).map (t_cv g))).stack = (as'.map (t_cv g)).reverse ++ .ref (g.1 k) :: rest.map (t_cv g) := by
        show ((Value.ref k :: as').reverse ++ rest).map (t_cv g) = _
        rw [List.reverse_cons, List.append_assoc, List.map_append, List.map_reverse]
        rfl
      rcases hlk with hlk | ⟨-, host, hlk⟩
      · exact vx_runV (C := (tm_y qc).cls) hF hM ⟨⟨rfl, rfl, hfr, hlo, hwsw, by rw [hws]; exact List.mem_cons_self, hEn.word hcode rfl, hEn.word k3 rfl, k4, hpar', hEn.word hlk rfl⟩, hEn.word hinst rfl, hEn.word hsel rfl⟩ hp rfl (by rw [List.length_map]) hsz hstk hroom hd ⟨hc, hs⟩
      · exact vx_runVN (C := (tm_y qc).cls) hF hM ⟨⟨⟨rfl, rfl, hfr, hlo, hwsw, by rw [hws]; exact List.mem_cons_self⟩, hEn.word hcode rfl, hEn.word k3 rfl, k4, hpar', hEn.word hlk rfl⟩, hEn.word hinst rfl, hEn.word hsel rfl⟩ hp rfl (by rw [List.length_map]) hsz hstk hroom hd ⟨hc, hs⟩
    | true =>
      obtain ⟨rfl, -⟩ := hi.resolve_left (fun z => by cases z.2)
      have hstt := k11 hst
      have hp : PreS s H (th_Pc g as h) (as.map (t_cv g)) := ⟨th_Pc_blind _ _ _, hPc⟩
      have hpar' : ∀ sig, parseMethodDescriptor (tm_y qc).desc = some sig → as.length = sig.parameters.length := by
        intro sig hsig
        have := hpar sig hsig
        rw [hst] at this
        simpa using this
      have hstk : (F0 m pc lsA ((as.reverse ++ rest).map (t_cv g))).stack = (as.map (t_cv g)).reverse ++ rest.map (t_cv g) := by
        show (as.reverse ++ rest).map (t_cv g) = _
        rw [List.map_append, List.map_reverse]
      rcases hlk with hlk | ⟨-, host, hlk⟩
      · exact vx_runS hF hM ⟨⟨rfl, rfl, hfr, hlo, hwsw, by rw [hws]; exact List.mem_cons_self, hEn.word hcode rfl, hEn.word k3 rfl, k4, hpar', hEn.word hlk rfl⟩, hEn.word hstt rfl⟩ hp rfl (by rw [List.length_map]) hsz hstk hroom hd ⟨hc, hs⟩
      · exact vx_runSN hF hM ⟨⟨⟨rfl, rfl, hfr, hlo, hwsw, by rw [hws]; exact List.mem_cons_self⟩, hEn.word hcode rfl, hEn.word k3 rfl, k4, hpar', hEn.word hlk rfl⟩, hEn.word hstt rfl, trivial⟩ hp rfl (by rw [List.length_map]) hsz hstk hroom hd ⟨hc, hs⟩
  · obtain ⟨hcode, hstq⟩ := k2 hh
    have hstt := k11 hstq
    rw [hstq] at hst
    subst hst
    obtain ⟨rfl, -⟩ := hi.resolve_left (fun z => by cases z.2)
    have hws : t_wsm qc = Cond.codeWith (tm_y qc) (tm_by qc) (tm_ml qc) (tm_rt qc) (tm_hh qc) :: [] := by
      unfold t_wsm
      cases hh9 : tm_hh qc with
      | nil => exact absurd hh9 hh
      | cons z zs => rfl
    have hwsw : ∀ w ∈ t_wsm qc, ∀ (a' : Array Value) (U : State), s.WarmedH U.vm → w.before a' U = true := by
      intro w hw9 a' U hWm
      rw [hws] at hw9
      rcases List.mem_cons.mp hw9 with rfl | hw9
      · exact word_at hWm (Or.inl rfl) (hEn.word (args := args) hcode rfl)
      · cases hw9
    have hpar' : ∀ sig, parseMethodDescriptor (tm_y qc).desc = some sig → as.length = sig.parameters.length := by
      intro sig hsig
      rw [hsig, Option.map_some, if_pos hstq] at k6
      have := Option.some.inj k6
      omega
    have hp : PreS s H (th_Pc g as h) (as.map (t_cv g)) := ⟨th_Pc_blind _ _ _, hPc⟩
    have hstk : (F0 m pc lsA ((as.reverse ++ rest).map (t_cv g))).stack = (as.map (t_cv g)).reverse ++ rest.map (t_cv g) := by
      show (as.reverse ++ rest).map (t_cv g) = _
      rw [List.map_append, List.map_reverse]
    rcases hlk with hlk | ⟨hh9, -⟩
    · exact vx_runSX hF hM ⟨⟨rfl, rfl, hfr, hlo, hwsw, by rw [hws]; exact List.mem_cons_self⟩, hEn.word hcode rfl, hEn.word k3 rfl, k4, hpar', hEn.word hlk rfl, hEn.word hstt rfl⟩ hp rfl (by rw [List.length_map]) hsz hstk hroom hd ⟨hc, hs⟩
    · exact absurd hh9 hh
end
section
theorem t_st_exc {q : tM} {pc len : Nat} {ls st : List Value} {h : tH} {ins : Instr} {n : tN} (hn : t_st q pc ls st h len ins = n) (hg : n.1) : n.2.2.2.2.2.2.2 = h.2.2.2 := by
  subst hn
  cases ins <;> simp only [t_st] at hg ⊢ <;> first | rfl | exact hg.elim | skip
  all_goals (repeat' split at hg) <;> first | rfl | exact hg.elim | (simp_all; done) | (rename_i hz hy; rw [if_neg hz]; done) | (repeat' split) <;> first | rfl | (simp_all; done) | contradiction
/-- a step behind which the small machine speaks true -/
theorem t_closed {l : Launch} (hl : l.stackTraces = false) : ∀ d mi pc ls st h o h', t_G (fun d mi pc ls st h o h' => ∀ g, t_Sem l g d mi pc ls st h o h') d mi pc ls st h o h' → ∀ g, t_Sem l g d mi pc ls st h o h' := by
  intro d mi pc ls st h o h' hG9 g
  obtain ⟨q, ins, len, hq, hd, hdo⟩ := hG9
  by_cases hs : t_smp q ins = true
  · rw [t_do_s hs] at hdo
    obtain ⟨hg, hN⟩ := hdo
    obtain ⟨hm, hnext⟩ := hN g
    have hex := t_st_exc (n := t_st q pc ls st h len ins) rfl hg
    rw [hex] at hm
    refine ⟨hm, ?_⟩
    intro q2 p e R s m args below meth c e0 Qw hq2 C hR1 hR2 he0 hR3 hR4 hF H locs lsA hW hS hlr
    cases hq.symm.trans hq2
    refine t_sim C (by omega) (by omega) (by omega) (by omega) hd hs rfl hg ?_ H locs lsA hW hS hlr
    intro H1 locs1 lsA1 hW1 hS1 hlr1
    have := hnext q p e R s m args below meth c e0 Qw hq C hR1 hR2 (by rw [hex]; exact he0) hR3 hR4 hF H1 locs1 lsA1 hW1 hS1 hlr1
    rw [hex] at this
    exact this
  · have hcall : ∀ (i : Nat) (stat : Bool), ((ins = .invokevirtual i ∧ stat = false) ∨ (ins = .invokestatic i ∧ stat = true)) → t_cl (fun d mi pc ls st h o h' => ∀ g, t_Sem l g d mi pc ls st h o h') q d mi pc ls st h o h' len i stat → t_Sem l g d mi pc ls st h o h' := by
      intro i stat hi hcl
      obtain ⟨rfl, ci, qc, a1, a2, a3, a4, a5, a6, a7, a8, o1, h1, a9, a11, a10⟩ := hcl
      have a9 := a9 g
      generalize has : (st.take (tm_na qc)).reverse = as at a6 a7 a8 a9
      generalize hrs : st.drop (tm_na qc) = rest at a5 a10
      have hst9 : st = as.reverse ++ rest := by rw [← has, ← hrs, List.reverse_reverse, List.take_append_drop]
      have hna : as.length = tm_na qc := by rw [← has, List.length_reverse, List.length_take]; omega
      have hm1 := a9.1
      have hm2 : h1.2.2.2 ≤ h'.2.2.2 := by
        unfold t_back at a10
        rw [← t_dc_n ci h1]
        cases o1 with
        | inl v => exact (a10.2 g).1
        | inr E =>
          dsimp only at a10
          cases hhd : t_hd (tm_oc q) pc E (tm_hh q) with
          | none => rw [hhd] at a10; rw [a10.2]; exact Nat.le_refl _
          | some hp =>
            rw [hhd] at a10
            obtain ⟨k, len2, -, -, -, b⟩ := a10
            exact (b g).1
      refine ⟨Nat.le_trans hm1 hm2, ?_⟩
      intro q2 p e R s m args below meth c e0 Qw hq2 C hR1 hR2 he0 hR3 hR4 hF H locs lsA hW hS hlr
      cases hq.symm.trans hq2
      have hrun := t_run (e := e) (R := R) (args := args) (below := below) hl C hd hi a1 a2 a3 hna a5 a6 a7 a8 hR1 hR2 a9 a11 hW hS hlr.1 (cells := h.2.2.2 - e0) (slots := 6 * (h.2.2.2 - e0)) (by omega) (by omega)
      rw [← hst9] at hrun
      have hc9 : h.2.2.2 - e0 + (h1.2.2.2 - h.2.2.2) = h1.2.2.2 - e0 := by omega
      have hs9 : 6 * (h.2.2.2 - e0) + 6 * (h1.2.2.2 - h.2.2.2) = 6 * (h1.2.2.2 - e0) := by omega
      have C0 := C
      obtain ⟨hx, hb, hml, hown, hlocks, hrt, htab, hEn, hG, hA⟩ := C
      intro T hT X
      rcases hrun T hT X with ⟨v, st₀, t, T', L, h0, X', hL, e1, e2, ⟨⟨v1, ho1, hv1, hWd⟩, hFr⟩, hgo⟩ | ⟨q9, st₀, t, T', L, E, ce, h0, X', hL, e1, e2, ⟨⟨n, ho1, hn3, hE, hWd⟩, hFr⟩, hce, hcv, hcl, hgo⟩
      · cases hv1
        subst ho1
        obtain ⟨-, -, k3⟩ := vx_keep h0 e1 hS (fun _ _ h => h) (fun _ h => h) hL hFr
        rw [hc9, hs9, ← t_dc_n ci h1] at X'
        obtain ⟨b1, b2⟩ := a10
        rw [e1] at k3
        obtain ⟨t2, c1, c2⟩ := (b2 g).2 q p e R s m args below meth c e0 Qw hq C0 hR1 hR2 (by rw [t_dc_n]; omega) hR3 hR4 hF t.heap (locs ++ L) lsA hWd k3 hlr T' e1 X'
        refine ⟨t2, hgo t2 ?_, c2⟩
        rw [List.map_append] at c1
        cases v1 with
        | none => exact c1
        | some v1 => exact c1
      · subst ho1
        obtain ⟨-, -, k3⟩ := vx_keep h0 e1 hS (fun _ _ h => h) (fun _ h => h) hL hFr
        rw [hc9, hs9, ← t_dc_n ci h1] at X'
        rw [e1] at k3
        rw [hE] at hcl
        unfold t_back at a10
        dsimp only at a10
        cases hhd : t_hd (tm_oc q) pc n (tm_hh q) with
        | none =>
          rw [hhd] at a10
          obtain ⟨rfl, rfl⟩ := a10
          obtain ⟨t2, c1, c2⟩ := (hF g (t_al_r _ _)).1 pc lsA (rest.map (t_cv g)) t.heap (locs ++ L) q9 ce hWd k3 hce hcv hcl hn3 hhd T' e1 X'
          exact ⟨t2, hgo.trans c1, c2⟩
        | some hp =>
          rw [hhd] at a10
          obtain ⟨k, len2, b1, b2, b3, b4⟩ := a10
          obtain ⟨pre, x, suf, f1, f2, f3, f4⟩ := t_hd_some _ hhd
          obtain ⟨x1, x2, x3⟩ := t_eok _ (t_lk_mem _ _ _ _ f3.2.2)
          have hsplit : c.exceptionTable.toList = tableOf pre ++ (⟨x.1, x.2.1, x.2.2.1, x.2.2.2⟩ : ExceptionTableEntry) :: tableOf suf := by
            rw [htab, f1]
            unfold tableOf
            rw [List.map_append, List.map_cons]
          have hcast : (Cond.castable (t_xn n) (t_xn n)).before args s = true := by
            match n, hn3 with
            | 0, _ => exact hEn.word t_cast_0.1 t_cast_0.2
            | 1, _ => exact hEn.word t_cast_1.1 t_cast_1.2
            | 2, _ => exact hEn.word t_cast_2.1 t_cast_2.2
          have hpass : ∀ z ∈ tableOf pre, covers z pc = false ∨ (z.catchType ≠ 0 ∧ ∃ nm : String, (Cond.classLink (t_cn (tm_oc q)) z.catchType nm).before args s = true ∧ va_Nc (t_xn n) nm s) := by
            intro z hz
            obtain ⟨y, hy, rfl⟩ := List.mem_map.mp hz
            exact t_pass C0 hq hn3 (by rw [f1]; exact List.mem_append_left _ hy) (f4 y hy)
          have hcov : covers (⟨x.1, x.2.1, x.2.2.1, x.2.2.2⟩ : ExceptionTableEntry) pc = true := by
            simp [covers, f3.1, f3.2.1]
          have hW9 : W p l e R s m args below meth c t.heap (locs ++ L) ((t_dc ci h1).2.2.2 - e0) (6 * ((t_dc ci h1).2.2.2 - e0)) Qw (F0 m hp lsA [.ref q9]) := by
            unfold t_as at b1
            split at b1
            · next k' hd9 =>
              cases b1
              refine lv_astore hx hb hd9 (t_lr_has hlr) (by rw [← hlr.2.1]; exact b2) rfl (fun ls1 hl1 => ?_)
              exact (b4 g).2 q p e R s m args below meth c e0 Qw hq C0 hR1 hR2 (by rw [t_dc_n]; omega) hR3 hR4 hF t.heap (locs ++ L) ls1 hWd k3 (t_lr_st1 (w := .float 0) b3 hlr.2.1 (fun z => by cases z) hl1)
            · next k' hd9 =>
              cases b1
              refine lv_astore_n hx hb hd9 rfl (t_lr_has hlr) (by rw [← hlr.2.1]; exact b2) rfl (fun ls1 hl1 => ?_)
              exact (b4 g).2 q p e R s m args below meth c e0 Qw hq C0 hR1 hR2 (by rw [t_dc_n]; omega) hR3 hR4 hF t.heap (locs ++ L) ls1 hWd k3 (t_lr_st1 (w := .float 0) b3 hlr.2.1 (fun z => by cases z) hl1)
            · cases b1
          have hcat := vx_catch (Q := Qw) (pc := pc) (ls := lsA) (rest := rest.map (t_cv g)) hown (tableOf pre) ⟨x.1, x.2.1, x.2.2.1, x.2.2.2⟩ (tableOf suf) hsplit hpass hcov x2 (hEn.word x3 rfl) hcast hce hcv hcl (by show W p l e R s m args below meth c t.heap (locs ++ L) ((t_dc ci h1).2.2.2 - e0) (6 * ((t_dc ci h1).2.2.2 - e0)) Qw (F0 m x.2.2.1 lsA [.ref q9]); rw [f2]; exact hW9)
          obtain ⟨t2, c1, c2⟩ := hcat T' e1 X'
          exact ⟨t2, hgo.trans c1, c2⟩
    have hret : ∀ v : Option Value, len = 1 → st = v.toList → o = .inl v → h' = h → t_ri q ins v → t_Sem l g d mi pc ls st h o h' := by
      intro v hlen hst ho hh hri
      subst hlen; subst ho; subst hh; subst hst
      refine ⟨Nat.le_refl _, ?_⟩
      intro q2 p e R s m args below meth c e0 Qw hq2 C hR1 hR2 he0 hR3 hR4 hF H locs lsA hW hS hlr
      cases hq.symm.trans hq2
      have := hF g (t_al_r _ _) pc ins H locs lsA hW hS hri hd
      cases v with
      | none => exact this
      | some v => exact this
    cases ins with
    | invokevirtual i => exact hcall i false (Or.inl ⟨rfl, rfl⟩) hdo
    | invokestatic i =>
      simp only [t_smp] at hs
      simp only [t_do, hs, if_false] at hdo
      exact hcall i true (Or.inr ⟨rfl, rfl⟩) hdo
    | ireturn =>
      obtain ⟨h1, x, h2, h3, h4, h5⟩ := hdo
      exact hret (some (.int x)) h1 h2 h3 h4 (Or.inl ⟨x, rfl, rfl, h5⟩)
    | lreturn =>
      obtain ⟨h1, x, h2, h3, h4, h5⟩ := hdo
      exact hret (some (.long x)) h1 h2 h3 h4 (Or.inr (Or.inl ⟨x, rfl, rfl, h5⟩))
    | areturn =>
      obtain ⟨h1, v, h2, h3, h4, h5, h6⟩ := hdo
      exact hret (some v) h1 h2 h4 h5 (Or.inr (Or.inr (Or.inl ⟨v, rfl, rfl, h3, h6⟩)))
    | return_ =>
      obtain ⟨h1, h2, h3, h4, h5⟩ := hdo
      exact hret none h1 h2 h3 h4 (Or.inr (Or.inr (Or.inr ⟨rfl, rfl, h5⟩)))
    | new i =>
      obtain ⟨h1, h2, E, h3, h4, h5⟩ := hdo
      subst h1; subst h4; subst h5
      refine ⟨Nat.le_succ _, ?_⟩
      intro q2 p e R s m args below meth c e0 Qw hq2 C hR1 hR2 he0 hR3 hR4 hF H locs lsA hW hS hlr
      cases hq.symm.trans hq2
      exact (hF g (t_al_r _ _)).2 pc i len lsA H locs h rfl he0 hW hS hlr.1 h2 h3
    | newarray t9 =>
      obtain ⟨h1, h2, h3, h4, h5, h6, hN⟩ := hdo
      subst h1; subst h2; subst h4
      have hm9 := (hN g).1
      refine ⟨Nat.le_trans (Nat.le_succ _) hm9, ?_⟩
      intro q2 p e R s m args below meth c e0 Qw hq2 C hR1 hR2 he0 hR3 hR4 hF H locs lsA hW hS hlr
      cases hq.symm.trans hq2
      have C0 := C
      obtain ⟨hx, hb, hml, hown, hlocks, hrt, htab, hEn, hG, hA⟩ := C
      have hc9 : h.2.2.2 + 1 ≤ h'.2.2.2 := hm9
      refine va_newa (atype := .int) (N' := 4) (a0 := (4, .inl fun _ => 0)) (ty := .int) hx hb (hEn.2.2.2.2.2.2.2 args) rfl hEn.1 hW.1 (t_ws_D hG hW) hS hA (fun _ => rfl) (by decide) (by decide) (by decide) (by omega) (by omega) hd (fun a cA H1 hK1 hP1 hD1 hS1 => ?_)
      have hcA : cA = g.2.2.1 0 := by
        have x : s.vm.findClass ("[" ++ FieldType.int.toString) = some cA := (hK1.2 2 _ rfl).2
        have y : s.vm.findClass ("[" ++ FieldType.int.toString) = some (g.2.2.1 0) := (hK1.2 0 _ rfl).2
        exact Option.some.inj (x.symm.trans y)
      subst hcA
      obtain ⟨g1, hg1⟩ : ∃ g1 : tE, g1 = (fun k => if k = 35 then a else g.1 k, g.2) := ⟨_, rfl⟩
      have k1 : ∀ k, k ≠ 35 → g1.1 k = g.1 k := fun k hk => by rw [hg1]; exact if_neg hk
      have k2 : g1.1 35 = a := by rw [hg1]; rfl
      have k3 : g1.2 = g.2 := by rw [hg1]
      have hal : t_al mi g g1 := Or.inr ⟨h3, k3, k1⟩
      have hG1 : t_Gd g1 := by
        obtain ⟨x1, x2, x3, x4, x5⟩ := hG
        unfold t_Gd
        rw [k3]
        refine ⟨x1, by rw [k1 33 (by decide)]; exact x2, x3, fun i j hi hj hij => ?_, fun i hi => ?_⟩
        · rw [k1 i (t_ids_35 i hi).1, k1 j (t_ids_35 j hj).1] at hij
          exact x4 i j hi hj hij
        · rw [k1 i (t_ids_35 i hi).1]
          exact x5 i hi
      have hE1 : t_En g1 s s.heap := by rw [hg1]; exact hEn
      have C1 : t_Cx g1 q p s m meth c := ⟨hx, hb, hml, hown, hlocks, hrt, htab, hE1, hG1, by rw [k3]; exact hA⟩
      have hfl : t_xc g h = [] := if_neg (by rw [h5]; decide)
      have hws : th_ws g h ++ [(a, .inl (g.2.2.1 0, (4, .inl fun _ => 0)))] = th_ws g1 (t_A h) := by
        unfold th_ws
        rw [hfl, List.append_nil, show t_xc g1 (t_A h) = [(a, .inl (g.2.2.1 0, (4, .inl fun _ => 0)))] from by
          unfold t_xc
          rw [if_pos (show (t_A h).1 36 0 = 1 from rfl), k2, k3]
          rfl]
        refine congrArg (· ++ _) (List.map_congr_left fun k hk => ?_)
        have hi := t_ids_35 k hk
        rw [k1 k hi.1, t_ce_al k3 k1, t_ce_i (g := g) (h := h) (h' := t_A h) hk (fun j j1 j2 => by
          funext b
          show (if j = 35 then 0 else if j = 36 ∧ b = 0 then 1 else h.1 j b) = h.1 j b
          rw [if_neg j1, if_neg fun z => j2 z.1]) rfl]
      rw [hws] at hP1 hD1
      have hW1 : t_Wd g1 (t_A h) H1 := by
        refine ⟨by rw [k3]; exact hP1, by rw [k3]; exact hW.2.1, by rw [k3]; exact hW.2.2.1, fun _ => ⟨fun i hi z => ?_, ?_⟩⟩
        · obtain ⟨q0, hq0, hw0⟩ := th_ws_get g1 (t_A h) hi
          have e1 := th_ws_x g1 (h := t_A h) rfl
          have e2 := hD1.1 q0 t_ids.length _ _ hw0 e1 z
          have e3 := (List.getElem?_eq_some_iff.mp hq0).1
          omega
        · have e1 := th_ws_x g1 (h := t_A h) rfl
          rw [k3]
          exact hD1.2 _ _ e1
      have hlr1 : t_lr g1 ls lsA (tm_ml q) := ⟨hlr.1, hlr.2.1, hlr.2.2.1, fun i v hv hs9 => by
        rw [t_cv_al k1 (fun j hj z => h6 v (List.mem_of_getElem? hv) (by rw [hj, z]))]
        exact hlr.2.2.2 i v hv hs9⟩
      have hW9 := (hN g1).2 q p e R s m args below meth c e0 Qw hq C1 hR1 hR2 (Nat.le_succ_of_le he0) hR3 hR4 (fun g2 h2 => hF g2 (t_al_t hal h2)) H1 locs lsA hW1 (by rw [k3]; exact hS1) hlr1
      have hst1 : ([Value.ref 35].map (t_cv g1)) = [.ref a] := by show [Value.ref (g1.1 35)] = _; rw [k2]
      rw [hst1] at hW9
      refine W.widen (k := (t_A h).2.2.2 - e0) (n := 6 * ((t_A h).2.2.2 - e0)) ?_ ?_ hW9
      · show h.2.2.2 - e0 + 1 ≤ h.2.2.2 + 1 - e0; omega
      · show 6 * (h.2.2.2 - e0) + 4 ≤ 6 * (h.2.2.2 + 1 - e0); omega
    | _ => exact absurd rfl hs
/-- what the small machine says holds -/
theorem t_sound {l : Launch} (hl : l.stackTraces = false) (g : tE) {d mi pc : Nat} {ls st : List Value} {h : tH} {o : tO} {h' : tH} (hh : t_Ev d mi pc ls st h o h') : t_Sem l g d mi pc ls st h o h' := hh (fun d mi pc ls st h o h' => ∀ g, t_Sem l g d mi pc ls st h o h') (t_closed hl) g
end
section
/-! ===== rows for the printed equations ===== -/
theorem t_gn {n : Nat} {P : Prop} : (n = n ∧ P) = P := propext ⟨fun x => x.2, fun x => ⟨rfl, x⟩⟩
theorem t_br {d mi : Nat} {P X : Prop} [Decidable P] {b : Bool} {t f : Nat} {ls st : List Value} {h : tH} {Q : tO → tH → Prop} {A B : Prop} (e : X = AX d mi (if b = true then t else f) ls st h Q) (hA : AX d mi t ls st h Q = A) (hB : AX d mi f ls st h Q = B) (hb : b = decide P := by rfl) : X = (if P then A else B) := by
  rw [e, ← hA, ← hB, hb]
  by_cases hp : P
  · rw [if_pos (decide_eq_true hp), if_pos hp]
  · rw [if_neg (fun z => hp (of_decide_eq_true z)), if_neg hp]
theorem t_cS {X : Prop} {qc : tM} {d ci : Nat} {as : List Value} {h : tH} {K K' : tO → tH → Prop} (e : X = (((true = false → ∃ k, as.head? = some (.ref k) ∧ ∃ cj, t_ob k = some cj ∧ t_oci (tm_oc qc) = some cj) ∧ t_lev qc as < d) ∧ AM ci as h K)) (hl : t_lev qc as < d) (hk : K = K') : X = AM ci as h K' := by
  rw [e, ← hk]
  exact propext ⟨fun x => x.2, fun x => ⟨⟨fun z => (nomatch z), hl⟩, x⟩⟩
theorem t_cSl {X : Prop} {qc : tM} {d ci : Nat} {as : List Value} {h : tH} {K K' : tO → tH → Prop} (e : X = (((true = false → ∃ k, as.head? = some (.ref k) ∧ ∃ cj, t_ob k = some cj ∧ t_oci (tm_oc qc) = some cj) ∧ t_lev qc as < d) ∧ AM ci as h K)) (hk : K = K') : X = (t_lev qc as < d ∧ AM ci as h K') := by
  rw [e, ← hk]
  exact propext ⟨fun x => ⟨x.1.2, x.2⟩, fun x => ⟨⟨fun z => (nomatch z), x.1⟩, x.2⟩⟩
theorem t_cVl {X : Prop} {qc : tM} {d ci k cj : Nat} {as : List Value} {h : tH} {K K' : tO → tH → Prop} (e : X = (((false = false → ∃ k', (Value.ref k :: as).head? = some (.ref k') ∧ ∃ cj, t_ob k' = some cj ∧ t_oci (tm_oc qc) = some cj) ∧ t_lev qc (.ref k :: as) < d) ∧ AM ci (.ref k :: as) h K)) (hc : t_oci (tm_oc qc) = some cj) (hk : K = K') : X = (t_ob k = some cj ∧ t_lev qc (.ref k :: as) < d ∧ AM ci (.ref k :: as) h K') := by
  rw [e, ← hk]
  refine propext ⟨fun x => ?_, fun x => ⟨⟨fun _ => ⟨k, rfl, cj, x.1, hc⟩, x.2.1⟩, x.2.2⟩⟩
  obtain ⟨k', h1, cj', h2, h3⟩ := x.1.1 rfl
  cases h1
  cases hc.symm.trans h3
  exact ⟨h2, x.1.2, x.2⟩
theorem t_cV {X : Prop} {qc : tM} {d ci k cj : Nat} {as : List Value} {h : tH} {K K' : tO → tH → Prop} (e : X = (((false = false → ∃ k', (Value.ref k :: as).head? = some (.ref k') ∧ ∃ cj, t_ob k' = some cj ∧ t_oci (tm_oc qc) = some cj) ∧ t_lev qc (.ref k :: as) < d) ∧ AM ci (.ref k :: as) h K)) (hc : t_oci (tm_oc qc) = some cj) (hl : t_lev qc (.ref k :: as) < d) (hk : K = K') : X = (t_ob k = some cj ∧ AM ci (.ref k :: as) h K') := by
  rw [t_cVl e hc hk]
  exact propext ⟨fun x => ⟨x.1, x.2.2⟩, fun x => ⟨x.1, hl, x.2⟩⟩
theorem AX_t2 {mi pc : Nat} {q : tM} {ins : Instr} {len : Nat} (hq : t_M[mi]? = some q) (hd : decode (tm_by q) pc = .ok (ins, len)) (hs : t_smp q ins = true) {d : Nat} {ls st : List Value} {h : tH} {Q : tO → tH → Prop} {g A B : Prop} {pc' : Nat} {ls' st' : List Value} {h' : tH}
    (e : t_st q pc ls st h len ins = (g, pc', ls', st', h')) (hg : g = (A ∧ B)) : AX d mi pc ls st h Q = (A ∧ B ∧ AX d mi pc' ls' st' h' Q) := (AX_t hq hd hs e hg).trans (propext and_assoc)
end
