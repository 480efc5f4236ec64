section
-- ===== PART A: goes FIRST, ahead of the names: the tables' words, and 'selects' of the private methods out of them =====
/-- a private method of a class that the tables say can be made, by its rows of tables_1 -/
def lw_okq (q : MethodName × Nat) : Prop := (q.1.cls ≠ "java/lang/invoke/MethodHandle" ∧ q.1.cls ≠ "java/lang/invoke/VarHandle") ∧ Cond.instantiable q.1.cls q.2 ∈ tables_1 ∧ Cond.privateMethod q.1 ∈ tables_1 ∧ Cond.instanceMethod q.1 ∈ tables_1
theorem lw_p0 : lw_okq (⟨"PencilWorks$Grades", "fill", "(I)I"⟩, 7) := ⟨⟨by decide +kernel, by decide +kernel⟩, List.mem_of_getElem? (i := 186) (by decide +kernel), List.mem_of_getElem? (i := 278) (by decide +kernel), List.mem_of_getElem? (i := 279) (by decide +kernel)⟩
theorem lw_p1 : lw_okq (⟨"PencilWorks$Machine", "setWeights", "()I"⟩, 7) := ⟨⟨by decide +kernel, by decide +kernel⟩, List.mem_of_getElem? (i := 216) (by decide +kernel), List.mem_of_getElem? (i := 293) (by decide +kernel), List.mem_of_getElem? (i := 294) (by decide +kernel)⟩
theorem lw_p2 : lw_okq (⟨"PencilWorks$Machine", "setLeft", "(I)V"⟩, 7) := ⟨⟨by decide +kernel, by decide +kernel⟩, List.mem_of_getElem? (i := 216) (by decide +kernel), List.mem_of_getElem? (i := 298) (by decide +kernel), List.mem_of_getElem? (i := 299) (by decide +kernel)⟩
theorem lw_p3 : lw_okq (⟨"PencilWorks$Machine", "bestNext", "(II)I"⟩, 7) := ⟨⟨by decide +kernel, by decide +kernel⟩, List.mem_of_getElem? (i := 216) (by decide +kernel), List.mem_of_getElem? (i := 302) (by decide +kernel), List.mem_of_getElem? (i := 303) (by decide +kernel)⟩
theorem lw_p4 : lw_okq (⟨"PencilWorks$Machine", "costThrough", "(III)I"⟩, 7) := ⟨⟨by decide +kernel, by decide +kernel⟩, List.mem_of_getElem? (i := 216) (by decide +kernel), List.mem_of_getElem? (i := 306) (by decide +kernel), List.mem_of_getElem? (i := 307) (by decide +kernel)⟩
theorem lw_p5 : lw_okq (⟨"PencilWorks$Machine", "walkBestOrder", "(I)I"⟩, 7) := ⟨⟨by decide +kernel, by decide +kernel⟩, List.mem_of_getElem? (i := 216) (by decide +kernel), List.mem_of_getElem? (i := 310) (by decide +kernel), List.mem_of_getElem? (i := 311) (by decide +kernel)⟩
theorem lw_p6 : lw_okq (⟨"PencilWorks$Machine", "clearJobs", "()V"⟩, 7) := ⟨⟨by decide +kernel, by decide +kernel⟩, List.mem_of_getElem? (i := 216) (by decide +kernel), List.mem_of_getElem? (i := 314) (by decide +kernel), List.mem_of_getElem? (i := 315) (by decide +kernel)⟩
theorem lw_p7 : lw_okq (⟨"java/lang/Throwable", "fillInStackTrace", "(I)Ljava/lang/Throwable;"⟩, 6) := ⟨⟨by decide +kernel, by decide +kernel⟩, List.mem_of_getElem? (i := 376) (by decide +kernel), List.mem_of_getElem? (i := 374) (by decide +kernel), List.mem_of_getElem? (i := 375) (by decide +kernel)⟩
theorem lw_p8 : lw_okq (⟨"PencilWorks$Earths", "setBounds", "()V"⟩, 16) := ⟨⟨by decide +kernel, by decide +kernel⟩, List.mem_of_getElem? (i := 27) (by decide +kernel), List.mem_of_getElem? (i := 466) (by decide +kernel), List.mem_of_getElem? (i := 467) (by decide +kernel)⟩
theorem lw_p9 : lw_okq (⟨"PencilWorks$Earths", "choose", "(IIIII)V"⟩, 16) := ⟨⟨by decide +kernel, by decide +kernel⟩, List.mem_of_getElem? (i := 27) (by decide +kernel), List.mem_of_getElem? (i := 474) (by decide +kernel), List.mem_of_getElem? (i := 475) (by decide +kernel)⟩
theorem lw_p10 : lw_okq (⟨"PencilWorks$Earths", "mayBeBetter", "(IIIII)Z"⟩, 16) := ⟨⟨by decide +kernel, by decide +kernel⟩, List.mem_of_getElem? (i := 27) (by decide +kernel), List.mem_of_getElem? (i := 478) (by decide +kernel), List.mem_of_getElem? (i := 479) (by decide +kernel)⟩
theorem lw_p11 : lw_okq (⟨"PencilWorks$Earths", "keep", "(III)V"⟩, 16) := ⟨⟨by decide +kernel, by decide +kernel⟩, List.mem_of_getElem? (i := 27) (by decide +kernel), List.mem_of_getElem? (i := 482) (by decide +kernel), List.mem_of_getElem? (i := 483) (by decide +kernel)⟩
theorem lw_p12 : lw_okq (⟨"PencilWorks$Earths", "chooseParts", "(IIIII)V"⟩, 16) := ⟨⟨by decide +kernel, by decide +kernel⟩, List.mem_of_getElem? (i := 27) (by decide +kernel), List.mem_of_getElem? (i := 486) (by decide +kernel), List.mem_of_getElem? (i := 487) (by decide +kernel)⟩
theorem lw_p13 : lw_okq (⟨"PencilWorks$Lots", "use", "(II)V"⟩, 9) := ⟨⟨by decide +kernel, by decide +kernel⟩, List.mem_of_getElem? (i := 89) (by decide +kernel), List.mem_of_getElem? (i := 542) (by decide +kernel), List.mem_of_getElem? (i := 543) (by decide +kernel)⟩
theorem lw_p14 : lw_okq (⟨"PencilWorks$Trials", "isKnown", "(II)Z"⟩, 6) := ⟨⟨by decide +kernel, by decide +kernel⟩, List.mem_of_getElem? (i := 133) (by decide +kernel), List.mem_of_getElem? (i := 558) (by decide +kernel), List.mem_of_getElem? (i := 559) (by decide +kernel)⟩
theorem lw_p15 : lw_okq (⟨"PencilWorks$Blame", "setSuspects", "(LPencilWorks$Lots;JI)V"⟩, 5) := ⟨⟨by decide +kernel, by decide +kernel⟩, List.mem_of_getElem? (i := 161) (by decide +kernel), List.mem_of_getElem? (i := 630) (by decide +kernel), List.mem_of_getElem? (i := 631) (by decide +kernel)⟩
def lw_privs_1 : List (MethodName × Nat) := [(⟨"PencilWorks$Grades", "fill", "(I)I"⟩, 7), (⟨"PencilWorks$Machine", "setWeights", "()I"⟩, 7), (⟨"PencilWorks$Machine", "setLeft", "(I)V"⟩, 7), (⟨"PencilWorks$Machine", "bestNext", "(II)I"⟩, 7), (⟨"PencilWorks$Machine", "costThrough", "(III)I"⟩, 7), (⟨"PencilWorks$Machine", "walkBestOrder", "(I)I"⟩, 7), (⟨"PencilWorks$Machine", "clearJobs", "()V"⟩, 7), (⟨"java/lang/Throwable", "fillInStackTrace", "(I)Ljava/lang/Throwable;"⟩, 6), (⟨"PencilWorks$Earths", "setBounds", "()V"⟩, 16), (⟨"PencilWorks$Earths", "choose", "(IIIII)V"⟩, 16), (⟨"PencilWorks$Earths", "mayBeBetter", "(IIIII)Z"⟩, 16), (⟨"PencilWorks$Earths", "keep", "(III)V"⟩, 16), (⟨"PencilWorks$Earths", "chooseParts", "(IIIII)V"⟩, 16), (⟨"PencilWorks$Lots", "use", "(II)V"⟩, 9), (⟨"PencilWorks$Trials", "isKnown", "(II)Z"⟩, 6), (⟨"PencilWorks$Blame", "setSuspects", "(LPencilWorks$Lots;JI)V"⟩, 5)]
theorem lw_r1 : ∀ q ∈ lw_privs_1, lw_okq q := List.forall_mem_cons.mpr ⟨lw_p0, List.forall_mem_cons.mpr ⟨lw_p1, List.forall_mem_cons.mpr ⟨lw_p2, List.forall_mem_cons.mpr ⟨lw_p3, List.forall_mem_cons.mpr ⟨lw_p4, List.forall_mem_cons.mpr ⟨lw_p5, List.forall_mem_cons.mpr ⟨lw_p6, List.forall_mem_cons.mpr ⟨lw_p7, List.forall_mem_cons.mpr ⟨lw_p8, List.forall_mem_cons.mpr ⟨lw_p9, List.forall_mem_cons.mpr ⟨lw_p10, List.forall_mem_cons.mpr ⟨lw_p11, List.forall_mem_cons.mpr ⟨lw_p12, List.forall_mem_cons.mpr ⟨lw_p13, List.forall_mem_cons.mpr ⟨lw_p14, List.forall_mem_cons.mpr ⟨lw_p15, fun _ h => absurd h List.not_mem_nil⟩⟩⟩⟩⟩⟩⟩⟩⟩⟩⟩⟩⟩⟩⟩⟩
theorem lw_p16 : lw_okq (⟨"PencilWorks$Blame", "blameMore", "(III)V"⟩, 5) := ⟨⟨by decide +kernel, by decide +kernel⟩, List.mem_of_getElem? (i := 161) (by decide +kernel), List.mem_of_getElem? (i := 634) (by decide +kernel), List.mem_of_getElem? (i := 635) (by decide +kernel)⟩
theorem lw_p17 : lw_okq (⟨"PencilWorks$Blame", "firstUnexplained", "(I)I"⟩, 5) := ⟨⟨by decide +kernel, by decide +kernel⟩, List.mem_of_getElem? (i := 161) (by decide +kernel), List.mem_of_getElem? (i := 638) (by decide +kernel), List.mem_of_getElem? (i := 639) (by decide +kernel)⟩
theorem lw_p18 : lw_okq (⟨"PencilWorks$Blame", "keep", "(II)V"⟩, 5) := ⟨⟨by decide +kernel, by decide +kernel⟩, List.mem_of_getElem? (i := 161) (by decide +kernel), List.mem_of_getElem? (i := 642) (by decide +kernel), List.mem_of_getElem? (i := 643) (by decide +kernel)⟩
theorem lw_p19 : lw_okq (⟨"PencilWorks$Blame", "blameEach", "(IIII)V"⟩, 5) := ⟨⟨by decide +kernel, by decide +kernel⟩, List.mem_of_getElem? (i := 161) (by decide +kernel), List.mem_of_getElem? (i := 646) (by decide +kernel), List.mem_of_getElem? (i := 647) (by decide +kernel)⟩
theorem lw_p20 : lw_okq (⟨"PencilWorksModel", "throwsIf", "(ZI)Z"⟩, 42) := ⟨⟨by decide +kernel, by decide +kernel⟩, List.mem_of_getElem? (i := 700) (by decide +kernel), List.mem_of_getElem? (i := 844) (by decide +kernel), List.mem_of_getElem? (i := 845) (by decide +kernel)⟩
theorem lw_p21 : lw_okq (⟨"PencilWorksModel", "noEarth", "(I)Z"⟩, 42) := ⟨⟨by decide +kernel, by decide +kernel⟩, List.mem_of_getElem? (i := 700) (by decide +kernel), List.mem_of_getElem? (i := 852) (by decide +kernel), List.mem_of_getElem? (i := 853) (by decide +kernel)⟩
theorem lw_p22 : lw_okq (⟨"PencilWorksModel", "blends", "(II)I"⟩, 42) := ⟨⟨by decide +kernel, by decide +kernel⟩, List.mem_of_getElem? (i := 700) (by decide +kernel), List.mem_of_getElem? (i := 863) (by decide +kernel), List.mem_of_getElem? (i := 864) (by decide +kernel)⟩
theorem lw_p23 : lw_okq (⟨"PencilWorksModel", "goes", "(IIIIIII)V"⟩, 42) := ⟨⟨by decide +kernel, by decide +kernel⟩, List.mem_of_getElem? (i := 700) (by decide +kernel), List.mem_of_getElem? (i := 867) (by decide +kernel), List.mem_of_getElem? (i := 868) (by decide +kernel)⟩
theorem lw_p24 : lw_okq (⟨"PencilWorksModel", "adds", "(IIII)I"⟩, 42) := ⟨⟨by decide +kernel, by decide +kernel⟩, List.mem_of_getElem? (i := 700) (by decide +kernel), List.mem_of_getElem? (i := 879) (by decide +kernel), List.mem_of_getElem? (i := 880) (by decide +kernel)⟩
theorem lw_p25 : lw_okq (⟨"PencilWorksModel", "noLot", "(I)Z"⟩, 42) := ⟨⟨by decide +kernel, by decide +kernel⟩, List.mem_of_getElem? (i := 700) (by decide +kernel), List.mem_of_getElem? (i := 891) (by decide +kernel), List.mem_of_getElem? (i := 892) (by decide +kernel)⟩
theorem lw_p26 : lw_okq (⟨"PencilWorksModel", "uses", "(II)V"⟩, 42) := ⟨⟨by decide +kernel, by decide +kernel⟩, List.mem_of_getElem? (i := 700) (by decide +kernel), List.mem_of_getElem? (i := 895) (by decide +kernel), List.mem_of_getElem? (i := 896) (by decide +kernel)⟩
theorem lw_p27 : lw_okq (⟨"PencilWorksModel", "explains", "(I)V"⟩, 42) := ⟨⟨by decide +kernel, by decide +kernel⟩, List.mem_of_getElem? (i := 700) (by decide +kernel), List.mem_of_getElem? (i := 916) (by decide +kernel), List.mem_of_getElem? (i := 917) (by decide +kernel)⟩
theorem lw_p28 : lw_okq (⟨"PencilWorksModel", "did", "(IZI)Z"⟩, 42) := ⟨⟨by decide +kernel, by decide +kernel⟩, List.mem_of_getElem? (i := 700) (by decide +kernel), List.mem_of_getElem? (i := 920) (by decide +kernel), List.mem_of_getElem? (i := 921) (by decide +kernel)⟩
theorem lw_p29 : lw_okq (⟨"PencilWorksModel", "slatsOfAll", "()I"⟩, 42) := ⟨⟨by decide +kernel, by decide +kernel⟩, List.mem_of_getElem? (i := 700) (by decide +kernel), List.mem_of_getElem? (i := 938) (by decide +kernel), List.mem_of_getElem? (i := 939) (by decide +kernel)⟩
theorem lw_p30 : lw_okq (⟨"PencilWorksModel", "dearest", "()I"⟩, 42) := ⟨⟨by decide +kernel, by decide +kernel⟩, List.mem_of_getElem? (i := 700) (by decide +kernel), List.mem_of_getElem? (i := 954) (by decide +kernel), List.mem_of_getElem? (i := 955) (by decide +kernel)⟩
theorem lw_p31 : lw_okq (⟨"PencilWorksModel", "next", "(III)I"⟩, 42) := ⟨⟨by decide +kernel, by decide +kernel⟩, List.mem_of_getElem? (i := 700) (by decide +kernel), List.mem_of_getElem? (i := 978) (by decide +kernel), List.mem_of_getElem? (i := 979) (by decide +kernel)⟩
def lw_privs_2 : List (MethodName × Nat) := [(⟨"PencilWorks$Blame", "blameMore", "(III)V"⟩, 5), (⟨"PencilWorks$Blame", "firstUnexplained", "(I)I"⟩, 5), (⟨"PencilWorks$Blame", "keep", "(II)V"⟩, 5), (⟨"PencilWorks$Blame", "blameEach", "(IIII)V"⟩, 5), (⟨"PencilWorksModel", "throwsIf", "(ZI)Z"⟩, 42), (⟨"PencilWorksModel", "noEarth", "(I)Z"⟩, 42), (⟨"PencilWorksModel", "blends", "(II)I"⟩, 42), (⟨"PencilWorksModel", "goes", "(IIIIIII)V"⟩, 42), (⟨"PencilWorksModel", "adds", "(IIII)I"⟩, 42), (⟨"PencilWorksModel", "noLot", "(I)Z"⟩, 42), (⟨"PencilWorksModel", "uses", "(II)V"⟩, 42), (⟨"PencilWorksModel", "explains", "(I)V"⟩, 42), (⟨"PencilWorksModel", "did", "(IZI)Z"⟩, 42), (⟨"PencilWorksModel", "slatsOfAll", "()I"⟩, 42), (⟨"PencilWorksModel", "dearest", "()I"⟩, 42), (⟨"PencilWorksModel", "next", "(III)I"⟩, 42)]
theorem lw_r2 : ∀ q ∈ lw_privs_2, lw_okq q := List.forall_mem_cons.mpr ⟨lw_p16, List.forall_mem_cons.mpr ⟨lw_p17, List.forall_mem_cons.mpr ⟨lw_p18, List.forall_mem_cons.mpr ⟨lw_p19, List.forall_mem_cons.mpr ⟨lw_p20, List.forall_mem_cons.mpr ⟨lw_p21, List.forall_mem_cons.mpr ⟨lw_p22, List.forall_mem_cons.mpr ⟨lw_p23, List.forall_mem_cons.mpr ⟨lw_p24, List.forall_mem_cons.mpr ⟨lw_p25, List.forall_mem_cons.mpr ⟨lw_p26, List.forall_mem_cons.mpr ⟨lw_p27, List.forall_mem_cons.mpr ⟨lw_p28, List.forall_mem_cons.mpr ⟨lw_p29, List.forall_mem_cons.mpr ⟨lw_p30, List.forall_mem_cons.mpr ⟨lw_p31, fun _ h => absurd h List.not_mem_nil⟩⟩⟩⟩⟩⟩⟩⟩⟩⟩⟩⟩⟩⟩⟩⟩
theorem lw_p32 : lw_okq (⟨"PencilWorksModel", "costs", "(II)I"⟩, 42) := ⟨⟨by decide +kernel, by decide +kernel⟩, List.mem_of_getElem? (i := 700) (by decide +kernel), List.mem_of_getElem? (i := 982) (by decide +kernel), List.mem_of_getElem? (i := 983) (by decide +kernel)⟩
def lw_privs_3 : List (MethodName × Nat) := [(⟨"PencilWorksModel", "costs", "(II)I"⟩, 42)]
theorem lw_r3 : ∀ q ∈ lw_privs_3, lw_okq q := List.forall_mem_cons.mpr ⟨lw_p32, fun _ h => absurd h List.not_mem_nil⟩
def lw_privs : List (MethodName × Nat) := lw_privs_1 ++ (lw_privs_2 ++ (lw_privs_3))
def lw_tbl : List Cond := k2_sels lw_privs ++ tables_1
theorem lw_privs_ok : ∀ q ∈ lw_privs, lw_okq q := by
  show ∀ q ∈ lw_privs_1 ++ (lw_privs_2 ++ (lw_privs_3)), lw_okq q
  exact List.forall_mem_append.mpr ⟨lw_r1, List.forall_mem_append.mpr ⟨lw_r2, lw_r3⟩⟩
end
section
/-! ===== BEGIN words of one list among another's, by their places ===== -/
theorem goodIn_r {big : List Cond} (ws : List Cond) (ps : List Nat) (hp : ws = ps.filterMap (fun i => big[i]?)) (h : ws.all goodWord = true) : GoodIn big ws := by
  intro w hw
  have h1 := List.all_eq_true.mp h w hw
  rw [hp] at hw
  obtain ⟨i, -, hi⟩ := List.mem_filterMap.mp hw
  have hm : w ∈ big := by first | exact List.mem_of_getElem? hi | exact List.getElem?_mem hi
  exact ⟨hm, good_of_word h1⟩
theorem goodIn_app {big a b : List Cond} (ha : GoodIn big a) (hb : GoodIn big b) : GoodIn big (a ++ b) := fun w h => (List.mem_append.mp h).elim (ha w) (hb w)
theorem goodIn_ca {big a b : List Cond} {c : Cond} (ha : GoodIn big (c :: a)) (hb : GoodIn big b) : GoodIn big (c :: (a ++ b)) := fun w h => (List.mem_cons.mp h).elim (fun e => ha w (List.mem_cons.mpr (Or.inl e))) (fun h => (List.mem_append.mp h).elim (fun h => ha w (List.mem_cons.mpr (Or.inr h))) (hb w))
theorem goodIn_sub {big ws : List Cond} (hm : ∀ w ∈ ws, w ∈ big) (h : ws.all goodWord = true) : GoodIn big ws := fun w hw => ⟨hm w hw, good_of_word (List.all_eq_true.mp h w hw)⟩
/-! ===== END ===== -/
end
section

/-! ===== BEGIN exceptions that leave a method, and their catching by the caller (launches without stack traces) ===== -/
section VXA
/-! The laws vx_back, vx_callV, vx_callS, vx_callSW, vx_throw0, vx_throwS follow proofs of the library, with one case more: JvmDerived/Free/Laws.lean (Back.of_free), Shelf42/LK1.lean (callV, callS), Shelf/KitTraced.lean (throwNew0V, throwNewS). -/
/-- where a method has thrown q: the class by its name, the cell, what was written, the world -/
def vx_T (XC : String → State → State → Prop) (st : State) (q : Addr) (t : State) (mc ms : Nat) (free : Addr → Prop) : Prop :=
  ∃ (E : String) (ce : Cell) (L : List Loc), XC E st t ∧ t.heap[q]? = some ce ∧ ce.vm = .none ∧ st.vm.findClass E = some ce.cls ∧ st.WarmedH t.vm ∧ st.sameButNew ({ t with vm := st.vm } : State) L mc ms ∧ ∀ z ∈ L, free z.base
def vx_Q (Qc : Array Value → State → Outcome → State → Prop) (XC : String → State → State → Prop) (mc ms : Nat) (free : Addr → Prop) : Array Value → State → Outcome → State → Prop := fun a st o t =>
  (Qc a st o t ∧ ∃ L, FrameEnd st o t L mc ms ∧ ∀ q ∈ L, free q.base) ∨ ∃ q, o = .threw q ∧ vx_T XC st q t mc ms free
/-- a callee that returns or throws -/
def vx_Met (l : Launch) (y : MethodName) (ws : List Cond) (rm : Room) (Pc : Array Value → State → Prop) (Qc : Array Value → State → Outcome → State → Prop) (XC : String → State → State → Prop) (mc ms : Nat) (free : Addr → Prop) : Prop :=
  MetFree l y (headSpec ws rm) Pc (fun _ _ _ _ _ => True) (vx_Q Qc XC mc ms free)
def vx_Post (XC : String → State → State → Prop) (mc ms : Nat) (free : Addr → Prop) : Pt → Array Value → Addr → Pt → Prop := fun A a q B =>
  ∃ (g : JFrame) (mk : MethodId) (t : State) (L : List Loc) (E : String) (ce : Cell), B.U.heap = t.heap ∧ B.U.vm = t.vm ∧ XC E (A.U.calling g mk a) t ∧ t.heap[q]? = some ce ∧ ce.vm = .none ∧ A.U.vm.findClass E = some ce.cls ∧ B.locs = A.locs ++ L ∧ (∀ z ∈ L, free z.base) ∧ B.cells = A.cells + mc ∧ B.slots = A.slots + ms
def vx_Back (l : Launch) (R : Room) (p : Program) (e : Env) (below : List Frame) (s : State) (sargs : Array Value) (y : MethodName) (len W9 : Nat)
    (Pre : Pt → Array Value → Prop) (Post : Pt → Array Value → Option Value → Pt → Prop) (PostX : Pt → Array Value → Addr → Pt → Prop) : Prop :=
  ∀ (m : MethodId) (meth : Method) (c : Code) (A : Pt) (g : JFrame) (ig : Instr) (mk : MethodId) (a : Array Value),
    Stand p l e R s m sargs below meth c A.U A.locs A.cells A.slots → g.method = m → g.locals.size = c.maxLocals → decode c.code g.pc = .ok (ig, len) →
    2 * g.monitorRoom + (g.stack.map fun v => v.category).sum ≤ W9 → A.U.methodNamed? y = some mk → Pre A a →
    (∃ (v : Option Value) (B : Pt), Stand p l e R s m sargs below meth c B.U B.locs B.cells B.slots ∧ Post A a v B ∧
      Steps p.tables e below (doInvoke e (A.U.setTop g) [] mk a).1 (B.U.setTop { g with pc := g.pc + len, stack := v.toList ++ g.stack })) ∨
    (∃ (q : Addr) (B : Pt), Stand p l e R s m sargs below meth c B.U B.locs B.cells B.slots ∧ PostX A a q B ∧
      Steps p.tables e below (doInvoke e (A.U.setTop g) [] mk a).1 ((B.U.setTop g).pushFrame (.throwing q)))
section Payer
variable {l : Launch} {R : Room} {p : Program} {e : Env} {below : List Frame} {s : State} {sargs : Array Value} {y : MethodName} {len W9 : Nat}
theorem vx_back {ws : List Cond} {rm : Room} {Pc : Array Value → State → Prop} {Qc : Array Value → State → Outcome → State → Prop} {XC : String → State → State → Prop} {mc ms : Nat} {free : Addr → Prop} {bytes : ByteArray} {maxL : Nat} {ret : Option FieldType}
    (hM : vx_Met l y ws rm Pc Qc XC mc ms free) (hblind : FrameBlind Pc) (hrc : rm.cells = mc) (hrs : rm.slots = ms)
    (hframes : rm.frames + 1 ≤ R.frames) (hlocals : W9 + (maxL + 11) + rm.locals ≤ R.locals)
    (hws : ∀ w ∈ ws, ∀ a' U, s.WarmedH U.vm → w.before a' U = true) (hcode : Cond.code y bytes maxL ret ∈ ws) (hinit : ∀ a' U, s.WarmedH U.vm → (Cond.initialized y.cls).before a' U = true) :
    vx_Back l R p e below s sargs y len W9 (PreOf R mc ms Pc) (PostOf Qc mc ms free) (vx_Post XC mc ms free) := by
  intro m meth c A g ig mk a X hg hsize hdg hW hn hp
  have h1 : (headSpec ws rm).pre.before a A.U = true := atoms_intro fun w hw => hws w hw _ _ X.warmed
  have h2 : (Cond.code y bytes maxL ret).before a A.U = true := hws _ hcode _ _ X.warmed
  have h3 : (Cond.initialized y.cls).before a A.U = true := hinit _ _ X.warmed
  have h4 : A.cells + (headSpec ws rm).room.cells ≤ R.cells := by rw [show (headSpec ws rm).room.cells = mc from hrc]; exact hp.1
  have h5 : A.slots + (headSpec ws rm).room.slots ≤ R.slots := by rw [show (headSpec ws rm).room.slots = ms from hrs]; exact hp.2.1
  have hPc : Pc a (A.U.calling g mk a) := hblind _ _ _ _ hp.2.2
  obtain ⟨U, Ls, c0, s0⟩ := A
  dsimp only [Pt.U, Pt.locs, Pt.cells, Pt.slots] at h1 h2 h3 h4 h5 X hn hPc ⊢
  obtain ⟨methY, cY, hmY, hcY, -, hlY, -, -, -, -⟩ := Cond.code_spec hn h2
  obtain ⟨kY, hkY, -⟩ := className_of_methodNamed hn
  have hinitY : kY.init = .initialized := Cond.initialized_spec (findClass_of_methodNamed hn) hkY h3
  have h : At U g.method c below := by rw [hg]; exact X.here
  have hlocals9 : W9 + (maxL + 11) + (headSpec ws rm).room.locals ≤ R.locals := hlocals
  have happ : (headSpec ws rm).appliesLoose y e.platform (U.calling g mk a) = true :=
    Spec.appliesLoose_calling (g := g) h hdg hn hkY hinitY
      (X.room_calling (g := g) (R' := (headSpec ws rm).room) hsize hmY hcY hframes (by rw [hlY]; omega) h4 h5) h1
  obtain ⟨mid, hmid⟩ := h.above
  have hfr : (U.setTop g).frames = (.java g :: mid) ++ below := by rw [State.frames_setTop' g h.top, hmid]; rfl
  obtain ⟨o, s₂, hsteps, -, hend, hq⟩ := Steps.callFree hM p X.admits X.cas X.clock (acts := []) hfr happ hPc trivial
  have hq' : vx_Q Qc XC mc ms free a (U.calling g mk a) o s₂ := hq
  rw [State.frames_setTop' g h.top] at hend
  obtain ⟨g₀, hg0⟩ := Option.isSome_iff_exists.mp h.top
  obtain ⟨r, hr⟩ := State.topJava?_eq_some.mp hg0
  have hr' : (({ U with heap := s₂.heap, slotsUsed := s₂.slotsUsed } : State).setVm s₂.vm).frames = .java g₀ :: r := hr
  rcases hq' with ⟨hqc, L, hfe, hL⟩ | ⟨q, rfl, E, ce, L, hx, hce, hcv, hcl, hW₂, hsm, hL⟩
  · obtain ⟨⟨v, rfl⟩, hW₂, e2, q2, q3, q4, q5, q6⟩ := id hfe
    have e3 : s₂ = ({ (U.calling g mk a).setFrames s₂.frames with heap := s₂.heap, slotsUsed := s₂.slotsUsed } : State).setVm s₂.vm := by
      have : s₂ = ({ s₂ with vm := (U.calling g mk a).vm } : State).setVm s₂.vm := rfl
      rw [e2] at this
      exact this
    obtain ⟨c₂, i₂, len₂, hc₂, hd₂, hf₂⟩ := hend
    have hW' : U.WarmedH s₂.vm := hW₂
    have hcc : c₂ = c := by
      have h1 : s₂.code? g.method = U.code? g.method := by
        rw [State.code?_eq, State.code?_eq, hW'.alike.method?]
      exact Option.some.inj (hc₂.symm.trans (h1.trans h.code))
    subst hcc
    have hlen : len₂ = len := by rw [hdg] at hd₂; cases hd₂; rfl
    subst hlen
    have hs₂ : s₂ = (({ U with heap := s₂.heap, slotsUsed := s₂.slotsUsed } : State).setVm s₂.vm).setTop { g with pc := g.pc + len₂, stack := v.toList ++ g.stack } := by
      refine e3.trans ?_
      rw [hf₂, State.calling_eq h.top, State.setFrames_setFrames, State.setTop_of_frames _ hr', hr]
      rfl
    have hsame : U.sameButNew ({ U with heap := s₂.heap, slotsUsed := s₂.slotsUsed } : State) L mc ms := by
      refine ⟨?_, q2, q3, q4, q5, q6⟩
      obtain ⟨t, ht, -⟩ := State.frames_cons hr
      show ({ U with heap := s₂.heap, slotsUsed := s₂.slotsUsed } : State) = { U.setFrames U.frames with heap := s₂.heap, slotsUsed := s₂.slotsUsed }
      rw [State.setFrames_self ht]
    subst hg
    refine Or.inl ⟨v, ⟨(({ U with heap := s₂.heap, slotsUsed := s₂.slotsUsed } : State).setVm s₂.vm), Ls ++ L, c0 + mc, s0 + ms⟩,
      ⟨X.admits, X.cas, X.clock, X.frames, X.room, X.hears, X.method, X.code, (X.here.setHeapUsed s₂.heap s₂.slotsUsed).setVm hW'.alike, X.tail, State.WarmedH.trans X.warmed hW', X.limits, X.bytes, X.same.trans (hsame.setVm s.vm)⟩,
      ⟨g, mk, s₂, L, rfl, rfl, hqc, rfl, hL, rfl, rfl⟩, ?_⟩
    show Steps p.tables e below _ ((({ U with heap := s₂.heap, slotsUsed := s₂.slotsUsed } : State).setVm s₂.vm).setTop { g with pc := g.pc + len₂, stack := v.toList ++ g.stack })
    rw [← hs₂]
    exact hsteps
  · obtain ⟨e2, q2, q3, q4, q5, q6⟩ := id hsm
    have e3 : s₂ = ({ (U.calling g mk a).setFrames s₂.frames with heap := s₂.heap, slotsUsed := s₂.slotsUsed } : State).setVm s₂.vm := by
      have : s₂ = ({ s₂ with vm := (U.calling g mk a).vm } : State).setVm s₂.vm := rfl
      rw [e2] at this
      exact this
    have hf₂ : s₂.frames = .throwing q :: .java g :: U.frames.tail := hend
    have hW' : U.WarmedH s₂.vm := hW₂
    have hs₂ : s₂ = ((({ U with heap := s₂.heap, slotsUsed := s₂.slotsUsed } : State).setVm s₂.vm).setTop g).pushFrame (.throwing q) := by
      refine e3.trans ?_
      rw [hf₂, State.calling_eq h.top, State.setFrames_setFrames, State.pushFrame, State.frames_setTop _ hr', State.setTop_of_frames _ hr', State.setFrames_setFrames, hr]
      rfl
    have hsame : U.sameButNew ({ U with heap := s₂.heap, slotsUsed := s₂.slotsUsed } : State) L mc ms := by
      refine ⟨?_, q2, q3, q4, q5, q6⟩
      obtain ⟨t, ht, -⟩ := State.frames_cons hr
      show ({ U with heap := s₂.heap, slotsUsed := s₂.slotsUsed } : State) = { U.setFrames U.frames with heap := s₂.heap, slotsUsed := s₂.slotsUsed }
      rw [State.setFrames_self ht]
    subst hg
    refine Or.inr ⟨q, ⟨(({ U with heap := s₂.heap, slotsUsed := s₂.slotsUsed } : State).setVm s₂.vm), Ls ++ L, c0 + mc, s0 + ms⟩,
      ⟨X.admits, X.cas, X.clock, X.frames, X.room, X.hears, X.method, X.code, (X.here.setHeapUsed s₂.heap s₂.slotsUsed).setVm hW'.alike, X.tail, State.WarmedH.trans X.warmed hW', X.limits, X.bytes, X.same.trans (hsame.setVm s.vm)⟩,
      ⟨g, mk, s₂, L, E, ce, rfl, rfl, hx, hce, hcv, hcl, rfl, hL, rfl, rfl⟩, ?_⟩
    show Steps p.tables e below _ (((({ U with heap := s₂.heap, slotsUsed := s₂.slotsUsed } : State).setVm s₂.vm).setTop g).pushFrame (.throwing q))
    rw [← hs₂]
    exact hsteps
end Payer
section Calls
variable {p : Program} {l : Launch} {e : Env} {R : Room} {s : State} {m : MethodId} {args : Array Value} {below : List Frame} {meth : Method} {c : Code} {T : State} {locs : List Loc} {cells slots : Nat}
theorem vx_callV (X : Stand p l e R s m args below meth c T locs cells slots) (hexec : p.tables.exec = Jvm.exec) {own C : String} {index : Nat} {y : MethodName} {bytes : ByteArray} {maxL : Nat} {ret : Option FieldType}
    (hown : s.vm.findClass own = some m.cls) (hlink : (Cond.methodLink own index y).before args s = true) (hinst : (Cond.instanceMethod y).before args s = true) (hsel : (Cond.selects C y y).before args s = true)
    (hcode : (Cond.code y bytes maxL ret).before args s = true) (hy : y.cls ≠ "java/lang/invoke/MethodHandle" ∧ y.cls ≠ "java/lang/invoke/VarHandle")
    {W9 : Nat} {Pre : Pt → Array Value → Prop} {Post : Pt → Array Value → Option Value → Pt → Prop} {PostX : Pt → Array Value → Addr → Pt → Prop} (hK : vx_Back l R p e below s args y 3 W9 Pre Post PostX)
    {b : Addr} {cellB : Cell} (hcell : T.heap[b]? = some cellB) (hobj : cellB.vm.isStatics = false) (hcls : s.vm.findClass C = some cellB.cls)
    {g : JFrame} (hg : g.method = m) (hsize : g.locals.size = c.maxLocals) {argsL rest : List Value} (hlen : ∀ sig, parseMethodDescriptor y.desc = some sig → argsL.length = sig.parameters.length)
    (hstack : g.stack = argsL.reverse ++ .ref b :: rest) (hW : 2 * g.monitorRoom + (rest.map fun v => v.category).sum ≤ W9) (hdg : decode c.code g.pc = .ok (.invokevirtual index, 3))
    (hpre : ∀ vm₁, s.WarmedH vm₁ → Pre ⟨T.setVm vm₁, locs, cells, slots⟩ (Value.ref b :: argsL).toArray) :
    (∃ (v : Option Value) (vm₁ : Vm) (B : Pt), s.WarmedH vm₁ ∧ Stand p l e R s m args below meth c B.U B.locs B.cells B.slots ∧ Post ⟨T.setVm vm₁, locs, cells, slots⟩ (Value.ref b :: argsL).toArray v B ∧
      ∀ target, Steps p.tables e below (B.U.setTop { g with pc := g.pc + 3, stack := v.toList ++ rest }) target → Steps p.tables e below (T.setTop g) target) ∨
    (∃ (q : Addr) (vm₁ : Vm) (B : Pt), s.WarmedH vm₁ ∧ Stand p l e R s m args below meth c B.U B.locs B.cells B.slots ∧ PostX ⟨T.setVm vm₁, locs, cells, slots⟩ (Value.ref b :: argsL).toArray q B ∧
      Steps p.tables e below (T.setTop g) ((B.U.setTop { g with stack := rest }).pushFrame (.throwing q))) := by
  obtain ⟨mk, methM, hnamed, hmethM, hstM, habM⟩ := Cond.instanceMethod_spec hinst
  obtain ⟨methM', cM, hmethM', -, -, -, -, -, -, hsigM⟩ := Cond.code_spec hnamed hcode
  cases hmethM.symm.trans hmethM'
  obtain ⟨c2, r2, m2, q1, q2, q3, q4, kP, hkP, hkPi⟩ := Cond.selects_spec hsel
  cases hcls.symm.trans q1
  cases (State.methodFound?_of_named hnamed hy).symm.trans q2
  cases hnamed.symm.trans q3
  have hselP : selectMethod e.platform s.vm cellB.cls mk = .method mk := by rw [Launch.admits_selectMethod X.admits]; exact q4
  obtain ⟨vm₁, X₁, hstep₁⟩ := X.invokevirtual hexec hown hlink hnamed hmethM hstM hkP hkPi hy (a := b) (cell := cellB) hcell
    (fun z h => by rw [h] at hobj; cases hobj) hselP hmethM habM hkP hkPi (g := g) hg (argsL := argsL) (rest := rest) (hlen _ hsigM) hstack hdg
  rcases hK m meth c ⟨T.setVm vm₁, locs, cells, slots⟩ { g with stack := rest } (.invokevirtual index) mk (Value.ref b :: argsL).toArray X₁ hg hsize hdg hW (X₁.named hnamed) (hpre vm₁ X₁.warmed) with ⟨v, B, X', hpost, hsteps⟩ | ⟨q, B, X', hpost, hsteps⟩
  · exact Or.inl ⟨v, vm₁, B, X₁.warmed, X', hpost, fun target h => hstep₁ _ fun acts => by rw [doInvoke_state]; exact hsteps.trans h⟩
  · exact Or.inr ⟨q, vm₁, B, X₁.warmed, X', hpost, hstep₁ _ fun acts => by rw [doInvoke_state]; exact hsteps⟩
theorem vx_callS (X : Stand p l e R s m args below meth c T locs cells slots) (hexec : p.tables.exec = Jvm.exec) {own : String} {index : Nat} {y : MethodName} {bytes : ByteArray} {maxL : Nat} {ret : Option FieldType}
    (hown : s.vm.findClass own = some m.cls) (hlink : (Cond.methodLink own index y).before args s = true) (hstat : (Cond.static y).before args s = true) (hinit : (Cond.initialized y.cls).before args s = true)
    (hcode : (Cond.code y bytes maxL ret).before args s = true) (hy : y.cls ≠ "java/lang/invoke/MethodHandle" ∧ y.cls ≠ "java/lang/invoke/VarHandle")
    {W9 : Nat} {Pre : Pt → Array Value → Prop} {Post : Pt → Array Value → Option Value → Pt → Prop} {PostX : Pt → Array Value → Addr → Pt → Prop} (hK : vx_Back l R p e below s args y 3 W9 Pre Post PostX)
    {g : JFrame} (hg : g.method = m) (hsize : g.locals.size = c.maxLocals) {argsL rest : List Value} (hlen : ∀ sig, parseMethodDescriptor y.desc = some sig → argsL.length = sig.parameters.length)
    (hstack : g.stack = argsL.reverse ++ rest) (hW : 2 * g.monitorRoom + (rest.map fun v => v.category).sum ≤ W9) (hdg : decode c.code g.pc = .ok (.invokestatic index, 3))
    (hpre : ∀ vm₁, s.WarmedH vm₁ → Pre ⟨T.setVm vm₁, locs, cells, slots⟩ argsL.toArray) :
    (∃ (v : Option Value) (vm₁ : Vm) (B : Pt), s.WarmedH vm₁ ∧ Stand p l e R s m args below meth c B.U B.locs B.cells B.slots ∧ Post ⟨T.setVm vm₁, locs, cells, slots⟩ argsL.toArray v B ∧
      ∀ target, Steps p.tables e below (B.U.setTop { g with pc := g.pc + 3, stack := v.toList ++ rest }) target → Steps p.tables e below (T.setTop g) target) ∨
    (∃ (q : Addr) (vm₁ : Vm) (B : Pt), s.WarmedH vm₁ ∧ Stand p l e R s m args below meth c B.U B.locs B.cells B.slots ∧ PostX ⟨T.setVm vm₁, locs, cells, slots⟩ argsL.toArray q B ∧
      Steps p.tables e below (T.setTop g) ((B.U.setTop { g with stack := rest }).pushFrame (.throwing q))) := by
  obtain ⟨mk, hnamed⟩ := Cond.code_named hcode
  obtain ⟨methM, cM, hmethM, -, -, -, -, -, -, hsigM⟩ := Cond.code_spec hnamed hcode
  have hstatic : methM.isStatic = true := Cond.static_spec hnamed hmethM hstat
  obtain ⟨kP, hkP, -⟩ := className_of_methodNamed hnamed
  have hinitP : kP.init = .initialized := Cond.initialized_spec (findClass_of_methodNamed hnamed) hkP hinit
  obtain ⟨vm₁, X₁, hstep₁⟩ := X.invokestatic hexec hown hlink hnamed hmethM hstatic hkP hinitP hy (g := g) hg (argsL := argsL) (rest := rest) (hlen _ hsigM) hstack hdg
  rcases hK m meth c ⟨T.setVm vm₁, locs, cells, slots⟩ { g with stack := rest } (.invokestatic index) mk argsL.toArray X₁ hg hsize hdg hW (X₁.named hnamed) (hpre vm₁ X₁.warmed) with ⟨v, B, X', hpost, hsteps⟩ | ⟨q, B, X', hpost, hsteps⟩
  · exact Or.inl ⟨v, vm₁, B, X₁.warmed, X', hpost, fun target h => hstep₁ _ fun acts => by rw [doInvoke_state]; exact hsteps.trans h⟩
  · exact Or.inr ⟨q, vm₁, B, X₁.warmed, X', hpost, hstep₁ _ fun acts => by rw [doInvoke_state]; exact hsteps⟩
end Calls
theorem vx_cls {s : State} {T : State} {vm₁ : Vm} {E : String} {k : ClassId} (hW : s.WarmedH vm₁) (h : (T.setVm vm₁).vm.findClass E = some k) : s.vm.findClass E = some k := by
  have h1 : vm₁.findClass E = some k := h
  rw [hW.alike.findClass] at h1
  exact h1
/-- the method's frame g, with q thrown over it -/
def vx_W (p : Program) (l : Launch) (e : Env) (R : Room) (s : State) (m : MethodId) (args : Array Value) (below : List Frame) (meth : Method) (c : Code) (H : Heap) (locs : List Loc) (cells slots : Nat) (Q : State → Prop) (g : JFrame) (q : Addr) : Prop :=
  ∀ T : State, T.heap = H → Stand p l e R s m args below meth c T locs cells slots → ∃ t, Steps p.tables e below ((T.setTop g).pushFrame (.throwing q)) t ∧ Q t
def vx_Run (p : Program) (l : Launch) (e : Env) (R : Room) (s : State) (m : MethodId) (args : Array Value) (below : List Frame) (meth : Method) (c : Code) (H : Heap) (locs : List Loc) (cells slots mc ms : Nat) (g : JFrame) (rest : List Value) (Qa : State → Outcome → State → Prop) (XC : String → State → State → Prop) (free : Addr → Prop) : Prop :=
  ∀ T : State, T.heap = H → Stand p l e R s m args below meth c T locs cells slots →
    (∃ (v : Option Value) (st₀ t T' : State) (L : List Loc), st₀.heap = H ∧ Stand p l e R s m args below meth c T' (locs ++ L) (cells + mc) (slots + ms) ∧ (∀ q ∈ L, free q.base) ∧ T'.heap = t.heap ∧ T'.vm = t.vm ∧ Qa st₀ (.returned v) t ∧
      Goes p e below T g T' { g with pc := g.pc + 3, stack := v.toList ++ rest }) ∨
    (∃ (q : Addr) (st₀ t T' : State) (L : List Loc) (E : String) (ce : Cell), st₀.heap = H ∧ Stand p l e R s m args below meth c T' (locs ++ L) (cells + mc) (slots + ms) ∧ (∀ z ∈ L, free z.base) ∧ T'.heap = t.heap ∧ T'.vm = t.vm ∧ XC E st₀ t ∧ t.heap[q]? = some ce ∧ ce.vm = .none ∧ s.vm.findClass E = some ce.cls ∧
      Steps p.tables e below (T.setTop g) ((T'.setTop { g with stack := rest }).pushFrame (.throwing q)))
def vx_X {S : Type} (px : S → Prop) (B : String → S → State → Prop) (A : Nat → Prop) : String → State → State → Prop := fun E st t => ∃ u : S, px u ∧ B E u t ∧ va_F A st t
section Runs
variable {p : Program} {l : Launch} {e : Env} {R : Room} {s : State} {m : MethodId} {args : Array Value} {below : List Frame} {meth : Method} {c : Code} {H : Heap} {locs : List Loc} {cells slots : Nat}
variable {y : MethodName} {bytes cc : ByteArray} {maxL nL mc ms n index : Nat} {ret : Option FieldType} {ws : List Cond} {rm : Room} {Pc : Array Value → State → Prop} {Qc : Array Value → State → Outcome → State → Prop} {XC : String → State → State → Prop} {free : Addr → Prop} {Ts : List Cond} {own C : String} {b : Addr} {As rest : List Value} {g : JFrame}
theorem vx_callBack (cb : CallB R s args own index y bytes maxL ret ws rm mc ms n) (hM : vx_Met l y ws rm Pc Qc XC mc ms free) (hbl : FrameBlind Pc) : vx_Back l R p e below s args y 3 8 (PreOf R mc ms Pc) (PostOf Qc mc ms free) (vx_Post XC mc ms free) := by
  obtain ⟨hrc, hrs, hfr, hlo, hws, hcw, -, hini, -⟩ := cb
  exact vx_back (bytes := bytes) (maxL := maxL) (ret := ret) hM hbl hrc hrs hfr hlo hws hcw (fun a' U hW => word_at hW (Or.inl (by first | rfl | simp [Cond.onTables, Cond.keeps, Cond.steady])) hini)
theorem vx_runV (S : CallFix p m c cc nL s args Ts own) (hM : vx_Met l y ws rm Pc Qc XC mc ms free) (cw : CallW R s args own C index y bytes maxL ret ws rm mc ms n) (hp : PreV s H C b Pc As)
    (hg : g.method = m) (hn : As.length = n) (hsize : g.locals.size = nL) (hstack : g.stack = As.reverse ++ .ref b :: rest) (hW : 2 * g.monitorRoom + (rest.map fun v => v.category).sum ≤ 8) (hdg : decode cc g.pc = .ok (.invokevirtual index, 3)) (hf : cells + mc ≤ R.cells ∧ slots + ms ≤ R.slots) :
    vx_Run p l e R s m args below meth c H locs cells slots mc ms g rest (Qc (Value.ref b :: As).toArray) XC free := by
  have hK : vx_Back l R p e below s args y 3 8 (PreOf R mc ms Pc) (PostOf Qc mc ms free) (vx_Post XC mc ms free) := vx_callBack cw.1 hM hp.1
  obtain ⟨⟨-, -, -, -, -, -, hcode, -, hy, hlen, hl⟩, hin, hse⟩ := cw
  obtain ⟨hx, hb, hml, ho, -⟩ := S
  obtain ⟨-, ⟨cellB, hcB, hoB, hclB⟩, hPc⟩ := hp
  intro T hT X
  rcases vx_callV X hx (C := C) (bytes := bytes) (maxL := maxL) (ret := ret) ho hl hin hse hcode hy hK (by rw [hT]; exact hcB) hoB hclB hg (hsize.trans hml.symm) (argsL := As) (rest := rest) (fun sig h => hn.trans (hlen sig h)) hstack hW (by rw [hb]; exact hdg)
    (fun vm₁ hW₁ => ⟨hf.1, hf.2, hPc (T.setVm vm₁) hT hW₁⟩) with ⟨v, vm₁, ⟨U', l2, c2, s2⟩, hW₁, X', ⟨g', mk, t, L, e1, e2, hq, h1, hL, h2, h3⟩, st⟩ | ⟨q, vm₁, ⟨U', l2, c2, s2⟩, hW₁, X', ⟨g', mk, t, L, E, ce, e1, e2, hq, hce, hcv, hcl, h1, hL, h2, h3⟩, st⟩
  · dsimp only [Pt.U, Pt.locs, Pt.cells, Pt.slots] at X' e1 e2 h1 h2 h3 st
    subst h1; subst h2; subst h3
    exact Or.inl ⟨v, (T.setVm vm₁).calling g' mk (Value.ref b :: As).toArray, t, U', L, hT, X', hL, e1, e2, hq, st⟩
  · dsimp only [Pt.U, Pt.locs, Pt.cells, Pt.slots] at X' e1 e2 h1 h2 h3 st hcl
    subst h1; subst h2; subst h3
    exact Or.inr ⟨q, (T.setVm vm₁).calling g' mk (Value.ref b :: As).toArray, t, U', L, E, ce, hT, X', hL, e1, e2, hq, hce, hcv, vx_cls hW₁ hcl, st⟩
theorem vx_runS (S : CallFix p m c cc nL s args Ts own) (hM : vx_Met l y ws rm Pc Qc XC mc ms free) (cw : CallB R s args own index y bytes maxL ret ws rm mc ms n ∧ (Cond.static y).before args s = true) (hp : PreS s H Pc As)
    (hg : g.method = m) (hn : As.length = n) (hsize : g.locals.size = nL) (hstack : g.stack = As.reverse ++ rest) (hW : 2 * g.monitorRoom + (rest.map fun v => v.category).sum ≤ 8) (hdg : decode cc g.pc = .ok (.invokestatic index, 3)) (hf : cells + mc ≤ R.cells ∧ slots + ms ≤ R.slots) :
    vx_Run p l e R s m args below meth c H locs cells slots mc ms g rest (Qc As.toArray) XC free := by
  have hK : vx_Back l R p e below s args y 3 8 (PreOf R mc ms Pc) (PostOf Qc mc ms free) (vx_Post XC mc ms free) := vx_callBack cw.1 hM hp.1
  obtain ⟨⟨-, -, -, -, -, -, hcode, hini, hy, hlen, hl⟩, hstt⟩ := cw
  obtain ⟨hx, hb, hml, ho, -⟩ := S
  intro T hT X
  rcases vx_callS X hx (bytes := bytes) (maxL := maxL) (ret := ret) ho hl hstt hini hcode hy hK hg (hsize.trans hml.symm) (argsL := As) (rest := rest) (fun sig h => hn.trans (hlen sig h)) hstack hW (by rw [hb]; exact hdg)
    (fun vm₁ hW₁ => ⟨hf.1, hf.2, hp.2 (T.setVm vm₁) hT hW₁⟩) with ⟨v, vm₁, ⟨U', l2, c2, s2⟩, hW₁, X', ⟨g', mk, t, L, e1, e2, hq, h1, hL, h2, h3⟩, st⟩ | ⟨q, vm₁, ⟨U', l2, c2, s2⟩, hW₁, X', ⟨g', mk, t, L, E, ce, e1, e2, hq, hce, hcv, hcl, h1, hL, h2, h3⟩, st⟩
  · dsimp only [Pt.U, Pt.locs, Pt.cells, Pt.slots] at X' e1 e2 h1 h2 h3 st
    subst h1; subst h2; subst h3
    exact Or.inl ⟨v, (T.setVm vm₁).calling g' mk As.toArray, t, U', L, hT, X', hL, e1, e2, hq, st⟩
  · dsimp only [Pt.U, Pt.locs, Pt.cells, Pt.slots] at X' e1 e2 h1 h2 h3 st hcl
    subst h1; subst h2; subst h3
    exact Or.inr ⟨q, (T.setVm vm₁).calling g' mk As.toArray, t, U', L, E, ce, hT, X', hL, e1, e2, hq, hce, hcv, vx_cls hW₁ hcl, st⟩
end Runs
section Rows
variable {p : Program} {l : Launch} {e : Env} {R : Room} {s : State} {m : MethodId} {args : Array Value} {below : List Frame} {meth : Method} {c : Code} {H : Heap} {locs : List Loc} {cells slots : Nat} {Q : State → Prop}
variable {mc ms : Nat} {free : Addr → Prop} {A0 A1 : Nat → Prop} {H0 : Heap} {a : Array Value} {pc : Nat} {ls : Array Slot} {st0 rest : List Value}
theorem vx_keep {st₀ t T' : State} {L : List Loc} (h0 : st₀.heap = H) (e1 : T'.heap = t.heap) (hS : va_S A0 H0 H locs) (hA : ∀ q, q < H.size → A1 q → A0 q) (hf : ∀ q, free q → A0 q) (hL : ∀ q ∈ L, free q.base) (hF : va_F A1 st₀ t) :
    H.size ≤ T'.heap.size ∧ (∀ q : Nat, q < H.size → ¬ A1 q → T'.heap[q]? = H[q]?) ∧ va_S A0 H0 T'.heap (locs ++ L) := by
  obtain ⟨hz, hk⟩ := hF
  rw [h0] at hz hk
  exact ⟨by rw [e1]; exact hz, fun q h1 h2 => by rw [e1]; exact hk q h1 h2,
    ⟨Nat.le_trans hS.1 (by rw [e1]; exact hz), fun q h1 h2 => by rw [e1, hk q (Nat.lt_of_lt_of_le h1 hS.1) (fun z => h2 (hA q (Nat.lt_of_lt_of_le h1 hS.1) z))]; exact hS.2.1 q h1 h2, fun q hq => by
      rcases List.mem_append.mp hq with h | h
      · exact hS.2.2 q h
      · exact hf _ (hL q h)⟩⟩
theorem vx_calli {S SX : Type} {post : Int32 → S → Prop} {px : SX → Prop} {B : S → State → Prop} {BX : String → SX → State → Prop} {AX : Nat → Prop} (hr : vx_Run p l e R s m args below meth c H locs cells slots mc ms (F0 m pc ls st0) rest (va_Qi post B A1 a) (vx_X px BX AX) free) (hS : va_S A0 H0 H locs) (hA : ∀ q, q < H.size → A1 q → A0 q) (hf : ∀ q, free q → A0 q) (hAX : ∀ q, q < H.size → AX q → A0 q)
    (kx : ∀ (E : String) (ce : Cell) (q9 : Addr) (u : SX) (t : State) (H1 : Heap) (locs1 : List Loc), t.heap = H1 → s.vm.Alike t.vm → px u → BX E u t → H.size ≤ H1.size → (∀ q : Nat, q < H.size → ¬ AX q → H1[q]? = H[q]?) → va_S A0 H0 H1 locs1 → H1[q9]? = some ce → ce.vm = .none → s.vm.findClass E = some ce.cls → vx_W p l e R s m args below meth c H1 locs1 (cells + mc) (slots + ms) Q (F0 m pc ls rest) q9)
    (kk : ∀ (r : Int32) (u : S) (t : State) (H1 : Heap) (locs1 : List Loc), t.heap = H1 → s.vm.Alike t.vm → post r u → B u t → H.size ≤ H1.size → (∀ q : Nat, q < H.size → ¬ A1 q → H1[q]? = H[q]?) → va_S A0 H0 H1 locs1 → W p l e R s m args below meth c H1 locs1 (cells + mc) (slots + ms) Q (F0 m (pc + 3) ls (.int r :: rest))) : W p l e R s m args below meth c H locs cells slots Q (F0 m pc ls st0) := by
  intro T hT X
  rcases hr T hT X with ⟨v, st₀, t, T', L, h0, X', hL, e1, e2, ⟨⟨r, u, hv, hp, hb⟩, hF⟩, st⟩ | ⟨q, st₀, t, T', L, E, ce, h0, X', hL, e1, e2, ⟨u, hp, hb, hF⟩, hce, hcv, hcl, st⟩
  · cases hv
    obtain ⟨k1, k2, k3⟩ := vx_keep h0 e1 hS hA hf hL hF
    obtain ⟨t2, a1, b1⟩ := kk r u t T'.heap (locs ++ L) e1.symm (by rw [← e2]; exact X'.warmed.alike) hp hb k1 k2 k3 T' rfl X'
    exact ⟨t2, st t2 a1, b1⟩
  · obtain ⟨k1, k2, k3⟩ := vx_keep h0 e1 hS hAX hf hL hF
    obtain ⟨t2, a1, b1⟩ := kx E ce q u t T'.heap (locs ++ L) e1.symm (by rw [← e2]; exact X'.warmed.alike) hp hb k1 k2 k3 (by rw [e1]; exact hce) hcv hcl T' rfl X'
    exact ⟨t2, st.trans a1, b1⟩
theorem vx_calll {S SX : Type} {post : Int64 → S → Prop} {px : SX → Prop} {B : S → State → Prop} {BX : String → SX → State → Prop} {AX : Nat → Prop} (hr : vx_Run p l e R s m args below meth c H locs cells slots mc ms (F0 m pc ls st0) rest (va_Ql post B A1 a) (vx_X px BX AX) free) (hS : va_S A0 H0 H locs) (hA : ∀ q, q < H.size → A1 q → A0 q) (hf : ∀ q, free q → A0 q) (hAX : ∀ q, q < H.size → AX q → A0 q)
    (kx : ∀ (E : String) (ce : Cell) (q9 : Addr) (u : SX) (t : State) (H1 : Heap) (locs1 : List Loc), t.heap = H1 → s.vm.Alike t.vm → px u → BX E u t → H.size ≤ H1.size → (∀ q : Nat, q < H.size → ¬ AX q → H1[q]? = H[q]?) → va_S A0 H0 H1 locs1 → H1[q9]? = some ce → ce.vm = .none → s.vm.findClass E = some ce.cls → vx_W p l e R s m args below meth c H1 locs1 (cells + mc) (slots + ms) Q (F0 m pc ls rest) q9)
    (kk : ∀ (r : Int64) (u : S) (t : State) (H1 : Heap) (locs1 : List Loc), t.heap = H1 → s.vm.Alike t.vm → post r u → B u t → H.size ≤ H1.size → (∀ q : Nat, q < H.size → ¬ A1 q → H1[q]? = H[q]?) → va_S A0 H0 H1 locs1 → W p l e R s m args below meth c H1 locs1 (cells + mc) (slots + ms) Q (F0 m (pc + 3) ls (.long r :: rest))) : W p l e R s m args below meth c H locs cells slots Q (F0 m pc ls st0) := by
  intro T hT X
  rcases hr T hT X with ⟨v, st₀, t, T', L, h0, X', hL, e1, e2, ⟨⟨r, u, hv, hp, hb⟩, hF⟩, st⟩ | ⟨q, st₀, t, T', L, E, ce, h0, X', hL, e1, e2, ⟨u, hp, hb, hF⟩, hce, hcv, hcl, st⟩
  · cases hv
    obtain ⟨k1, k2, k3⟩ := vx_keep h0 e1 hS hA hf hL hF
    obtain ⟨t2, a1, b1⟩ := kk r u t T'.heap (locs ++ L) e1.symm (by rw [← e2]; exact X'.warmed.alike) hp hb k1 k2 k3 T' rfl X'
    exact ⟨t2, st t2 a1, b1⟩
  · obtain ⟨k1, k2, k3⟩ := vx_keep h0 e1 hS hAX hf hL hF
    obtain ⟨t2, a1, b1⟩ := kx E ce q u t T'.heap (locs ++ L) e1.symm (by rw [← e2]; exact X'.warmed.alike) hp hb k1 k2 k3 (by rw [e1]; exact hce) hcv hcl T' rfl X'
    exact ⟨t2, st.trans a1, b1⟩
theorem vx_callf {S SX : Type} {post : UInt32 → S → Prop} {px : SX → Prop} {B : S → State → Prop} {BX : String → SX → State → Prop} {AX : Nat → Prop} (hr : vx_Run p l e R s m args below meth c H locs cells slots mc ms (F0 m pc ls st0) rest (va_Qf post B A1 a) (vx_X px BX AX) free) (hS : va_S A0 H0 H locs) (hA : ∀ q, q < H.size → A1 q → A0 q) (hf : ∀ q, free q → A0 q) (hAX : ∀ q, q < H.size → AX q → A0 q)
    (kx : ∀ (E : String) (ce : Cell) (q9 : Addr) (u : SX) (t : State) (H1 : Heap) (locs1 : List Loc), t.heap = H1 → s.vm.Alike t.vm → px u → BX E u t → H.size ≤ H1.size → (∀ q : Nat, q < H.size → ¬ AX q → H1[q]? = H[q]?) → va_S A0 H0 H1 locs1 → H1[q9]? = some ce → ce.vm = .none → s.vm.findClass E = some ce.cls → vx_W p l e R s m args below meth c H1 locs1 (cells + mc) (slots + ms) Q (F0 m pc ls rest) q9)
    (kk : ∀ (r : UInt32) (u : S) (t : State) (H1 : Heap) (locs1 : List Loc), t.heap = H1 → s.vm.Alike t.vm → post r u → B u t → H.size ≤ H1.size → (∀ q : Nat, q < H.size → ¬ A1 q → H1[q]? = H[q]?) → va_S A0 H0 H1 locs1 → W p l e R s m args below meth c H1 locs1 (cells + mc) (slots + ms) Q (F0 m (pc + 3) ls (.float r :: rest))) : W p l e R s m args below meth c H locs cells slots Q (F0 m pc ls st0) := by
  intro T hT X
  rcases hr T hT X with ⟨v, st₀, t, T', L, h0, X', hL, e1, e2, ⟨⟨r, u, hv, hp, hb⟩, hF⟩, st⟩ | ⟨q, st₀, t, T', L, E, ce, h0, X', hL, e1, e2, ⟨u, hp, hb, hF⟩, hce, hcv, hcl, st⟩
  · cases hv
    obtain ⟨k1, k2, k3⟩ := vx_keep h0 e1 hS hA hf hL hF
    obtain ⟨t2, a1, b1⟩ := kk r u t T'.heap (locs ++ L) e1.symm (by rw [← e2]; exact X'.warmed.alike) hp hb k1 k2 k3 T' rfl X'
    exact ⟨t2, st t2 a1, b1⟩
  · obtain ⟨k1, k2, k3⟩ := vx_keep h0 e1 hS hAX hf hL hF
    obtain ⟨t2, a1, b1⟩ := kx E ce q u t T'.heap (locs ++ L) e1.symm (by rw [← e2]; exact X'.warmed.alike) hp hb k1 k2 k3 (by rw [e1]; exact hce) hcv hcl T' rfl X'
    exact ⟨t2, st.trans a1, b1⟩
theorem vx_calld {S SX : Type} {post : UInt64 → S → Prop} {px : SX → Prop} {B : S → State → Prop} {BX : String → SX → State → Prop} {AX : Nat → Prop} (hr : vx_Run p l e R s m args below meth c H locs cells slots mc ms (F0 m pc ls st0) rest (va_Qd post B A1 a) (vx_X px BX AX) free) (hS : va_S A0 H0 H locs) (hA : ∀ q, q < H.size → A1 q → A0 q) (hf : ∀ q, free q → A0 q) (hAX : ∀ q, q < H.size → AX q → A0 q)
    (kx : ∀ (E : String) (ce : Cell) (q9 : Addr) (u : SX) (t : State) (H1 : Heap) (locs1 : List Loc), t.heap = H1 → s.vm.Alike t.vm → px u → BX E u t → H.size ≤ H1.size → (∀ q : Nat, q < H.size → ¬ AX q → H1[q]? = H[q]?) → va_S A0 H0 H1 locs1 → H1[q9]? = some ce → ce.vm = .none → s.vm.findClass E = some ce.cls → vx_W p l e R s m args below meth c H1 locs1 (cells + mc) (slots + ms) Q (F0 m pc ls rest) q9)
    (kk : ∀ (r : UInt64) (u : S) (t : State) (H1 : Heap) (locs1 : List Loc), t.heap = H1 → s.vm.Alike t.vm → post r u → B u t → H.size ≤ H1.size → (∀ q : Nat, q < H.size → ¬ A1 q → H1[q]? = H[q]?) → va_S A0 H0 H1 locs1 → W p l e R s m args below meth c H1 locs1 (cells + mc) (slots + ms) Q (F0 m (pc + 3) ls (.double r :: rest))) : W p l e R s m args below meth c H locs cells slots Q (F0 m pc ls st0) := by
  intro T hT X
  rcases hr T hT X with ⟨v, st₀, t, T', L, h0, X', hL, e1, e2, ⟨⟨r, u, hv, hp, hb⟩, hF⟩, st⟩ | ⟨q, st₀, t, T', L, E, ce, h0, X', hL, e1, e2, ⟨u, hp, hb, hF⟩, hce, hcv, hcl, st⟩
  · cases hv
    obtain ⟨k1, k2, k3⟩ := vx_keep h0 e1 hS hA hf hL hF
    obtain ⟨t2, a1, b1⟩ := kk r u t T'.heap (locs ++ L) e1.symm (by rw [← e2]; exact X'.warmed.alike) hp hb k1 k2 k3 T' rfl X'
    exact ⟨t2, st t2 a1, b1⟩
  · obtain ⟨k1, k2, k3⟩ := vx_keep h0 e1 hS hAX hf hL hF
    obtain ⟨t2, a1, b1⟩ := kx E ce q u t T'.heap (locs ++ L) e1.symm (by rw [← e2]; exact X'.warmed.alike) hp hb k1 k2 k3 (by rw [e1]; exact hce) hcv hcl T' rfl X'
    exact ⟨t2, st.trans a1, b1⟩
theorem vx_callv {S SX : Type} {post : S → Prop} {px : SX → Prop} {B : S → State → Prop} {BX : String → SX → State → Prop} {AX : Nat → Prop} (hr : vx_Run p l e R s m args below meth c H locs cells slots mc ms (F0 m pc ls st0) rest (va_Qv post B A1 a) (vx_X px BX AX) free) (hS : va_S A0 H0 H locs) (hA : ∀ q, q < H.size → A1 q → A0 q) (hf : ∀ q, free q → A0 q) (hAX : ∀ q, q < H.size → AX q → A0 q)
    (kx : ∀ (E : String) (ce : Cell) (q9 : Addr) (u : SX) (t : State) (H1 : Heap) (locs1 : List Loc), t.heap = H1 → s.vm.Alike t.vm → px u → BX E u t → H.size ≤ H1.size → (∀ q : Nat, q < H.size → ¬ AX q → H1[q]? = H[q]?) → va_S A0 H0 H1 locs1 → H1[q9]? = some ce → ce.vm = .none → s.vm.findClass E = some ce.cls → vx_W p l e R s m args below meth c H1 locs1 (cells + mc) (slots + ms) Q (F0 m pc ls rest) q9)
    (kk : ∀ (u : S) (t : State) (H1 : Heap) (locs1 : List Loc), t.heap = H1 → s.vm.Alike t.vm → post u → B u t → H.size ≤ H1.size → (∀ q : Nat, q < H.size → ¬ A1 q → H1[q]? = H[q]?) → va_S A0 H0 H1 locs1 → W p l e R s m args below meth c H1 locs1 (cells + mc) (slots + ms) Q (F0 m (pc + 3) ls (rest))) : W p l e R s m args below meth c H locs cells slots Q (F0 m pc ls st0) := by
  intro T hT X
  rcases hr T hT X with ⟨v, st₀, t, T', L, h0, X', hL, e1, e2, ⟨⟨u, hv, hp, hb⟩, hF⟩, st⟩ | ⟨q, st₀, t, T', L, E, ce, h0, X', hL, e1, e2, ⟨u, hp, hb, hF⟩, hce, hcv, hcl, st⟩
  · cases hv
    obtain ⟨k1, k2, k3⟩ := vx_keep h0 e1 hS hA hf hL hF
    obtain ⟨t2, a1, b1⟩ := kk u t T'.heap (locs ++ L) e1.symm (by rw [← e2]; exact X'.warmed.alike) hp hb k1 k2 k3 T' rfl X'
    exact ⟨t2, st t2 a1, b1⟩
  · obtain ⟨k1, k2, k3⟩ := vx_keep h0 e1 hS hAX hf hL hF
    obtain ⟨t2, a1, b1⟩ := kx E ce q u t T'.heap (locs ++ L) e1.symm (by rw [← e2]; exact X'.warmed.alike) hp hb k1 k2 k3 (by rw [e1]; exact hce) hcv hcl T' rfl X'
    exact ⟨t2, st.trans a1, b1⟩
/-- caught by the row x of this method's table; the rows ahead don't take it -/
theorem vx_catch {own name : String} {E : String} {ce : Cell} {q : Addr} (hown : s.vm.findClass own = some m.cls) (pre : List ExceptionTableEntry) (x : ExceptionTableEntry) (suf : List ExceptionTableEntry) (hsplit : c.exceptionTable.toList = pre ++ x :: suf)
    (hpass : ∀ z ∈ pre, covers z pc = false ∨ (z.catchType ≠ 0 ∧ ∃ nm : String, (Cond.classLink own z.catchType nm).before args s = true ∧ va_Nc E nm s)) (hx : covers x pc = true) (h0 : x.catchType ≠ 0)
    (hlink : (Cond.classLink own x.catchType name).before args s = true) (hcast : (Cond.castable E name).before args s = true) (hcell : H[q]? = some ce) (hv : ce.vm = .none) (hcl : s.vm.findClass E = some ce.cls)
    (kk : W p l e R s m args below meth c H locs cells slots Q (F0 m x.handlerPc ls [.ref q])) : vx_W p l e R s m args below meth c H locs cells slots Q (F0 m pc ls rest) q := by
  sorry
end Rows
section Ends
variable {p : Program} {l : Launch} {e : Env} {R : Room} {s : State} {m : MethodId} {args : Array Value} {below : List Frame} {meth : Method} {c : Code} {H : Heap} {locs : List Loc} {cells slots : Nat} {Q : State → Prop}
variable {mc ms : Nat} {free : Addr → Prop} {A0 A1 : Nat → Prop} {H0 : Heap} {a : Array Value} {ls : Array Slot} {st0 rest : List Value}
variable {Qc : Array Value → State → Outcome → State → Prop} {XC : String → State → State → Prop}
/-- what a body that may throw owes at its end -/
def vx_MQ (below : List Frame) (Qc : Array Value → State → Outcome → State → Prop) (XC : String → State → State → Prop) (a : Array Value) (s : State) (mc ms : Nat) (free : Addr → Prop) : State → Prop := fun t =>
  ∃ o, t.status = .running ∧ Ended t below o ∧ vx_Q Qc XC mc ms free a s o t
theorem vx_ret {g : JFrame} {mc ms : Nat} (k : W p l e R s m args below meth c H locs cells slots (MQ below Qc args s mc ms free) g) : W p l e R s m args below meth c H locs cells slots (vx_MQ below Qc XC args s mc ms free) g := by
  intro T hT X
  obtain ⟨t, a1, o, b1, b2, b3, b4⟩ := k T hT X
  exact ⟨t, a1, o, b1, b2, Or.inl ⟨b3, b4⟩⟩
/-- not caught here: it goes on to the caller -/
theorem vx_widen {g : JFrame} {q : Addr} {k n : Nat} (h1 : cells ≤ k) (h2 : slots ≤ n) (kk : vx_W p l e R s m args below meth c H locs k n Q g q) : vx_W p l e R s m args below meth c H locs cells slots Q g q := fun T hT X => kk T hT (stand_widen X h1 h2)
theorem vx_out {pc : Nat} {E : String} {ce : Cell} {q : Addr} {mc ms : Nat} (hout : ∀ x ∈ c.exceptionTable.toList, covers x pc = false) (hlocks : meth.locks = false) (hcell : H[q]? = some ce) (hv : ce.vm = .none) (hcl : s.vm.findClass E = some ce.cls)
    (hx : ∀ t : State, t.heap = H → s.vm.Alike t.vm → XC E s t) (hf : ∀ z ∈ locs, free z.base) (hc : cells ≤ mc) (hs : slots ≤ ms) :
    vx_W p l e R s m args below meth c H locs cells slots (vx_MQ below Qc XC args s mc ms free) (F0 m pc ls rest) q := by
  intro T hT X
  obtain ⟨st1, hrun, hend, hW, hsm⟩ := X.leaveThrown q (g := F0 m pc ls rest) rfl rfl rfl hout hlocks
  have hcell9 : (T.setFrames (.throwing q :: below)).heap[q]? = some ce := by
    show T.heap[q]? = some ce
    rw [hT]; exact hcell
  exact ⟨_, st1, .threw q, hrun, hend, Or.inr ⟨q, rfl, E, ce, locs, hx _ hT hW.alike, hcell9, hv, hcl, hW, hsm.mono hc hs, hf⟩⟩
theorem vx_frame {U : State} {k n : Nat} (h : s.sameButNew ({ U with vm := s.vm } : State) locs k n) : s.heap.size ≤ U.heap.size ∧ ∀ q : Nat, q < s.heap.size → (∀ z ∈ locs, z.base ≠ q) → U.heap[q]? = s.heap[q]? := by
  obtain ⟨-, h2, -, -, -, h6⟩ := h
  refine ⟨h2, fun q hq hz => ?_⟩
  obtain ⟨c9, e1, e2, e3, e4⟩ := h6 q _ (Array.getElem?_eq_getElem hq)
  have hs : c9.slots = (s.heap[q]).slots := Array.ext_getElem? fun i => e4 i fun hm => hz _ hm rfl
  have h9 : c9 = s.heap[q] := by
    rw [hs] at e2
    exact e2
  have e5 : U.heap[q]? = some c9 := e1
  rw [e5, h9, Array.getElem?_eq_getElem hq]
/-- the words of a throw but the four that speak of the heap -/
def vx_no (w : Cond) : Bool := decide (w ≠ .isRef (.static Bundle.tN "UNASSIGNED_STACK" Bundle.steD)) && decide (w ≠ .isRef (.static Bundle.tN "SUPPRESSED_SENTINEL" Bundle.listD)) && decide (w ≠ .laysStatic Bundle.tN "UNASSIGNED_STACK" Bundle.steD) && decide (w ≠ .laysStatic Bundle.tN "SUPPRESSED_SENTINEL" Bundle.listD)
def vx_at0 (own : String) (ic : Nat) (X : String) (names : List String) : List Cond := (Bundle.ownAtoms0 own ic X names).filter vx_no
def vx_atS (own : String) (ic : Nat) (X : String) (names : List String) : List Cond := (Bundle.ownAtoms own ic X names).filter vx_no
/-- a word that the tables alone decide, or a good one -/
def vx_ot (w : Cond) : Bool := w.onTables || goodWord w
theorem vx_ot_at {args a' : Array Value} {s U : State} {w : Cond} (hW : s.WarmedH U.vm) (hvm : s.vm = U.vm) (hg : vx_ot w = true) (h : w.before args s = true) : w.before a' U = true := by
  simp only [vx_ot, Bool.or_eq_true] at hg
  rcases hg with hg | hg
  · exact va_tabs hg hvm h
  · exact word_at hW (good_of_word hg) h
/-- a list's words: the good ones out of the method's own list, the others by premises of their own -/
theorem vx_hat {args : Array Value} {s : State} {L B : List Cond} (h1 : ∀ w ∈ L.filter goodWord, w.before args s = true) (h2 : ∀ w ∈ L.filter (fun w => !goodWord w), w ∈ B) (h3 : ∀ w ∈ B, w.before args s = true) : ∀ w ∈ L, w.before args s = true := by
  intro w hw
  by_cases g : goodWord w = true
  · exact h1 w (List.mem_filter.mpr ⟨hw, g⟩)
  · refine h3 w (h2 w (List.mem_filter.mpr ⟨hw, ?_⟩))
    show (!goodWord w) = true
    cases hgw : goodWord w
    · rfl
    · exact absurd hgw g
theorem vx_c {args : Array Value} {s : State} {w : Cond} {B : List Cond} (h : w.before args s = true) (t : ∀ w ∈ B, w.before args s = true) : ∀ w' ∈ w :: B, w'.before args s = true := fun w' h' => (List.mem_cons.mp h').elim (fun e => by rw [e]; exact h) (t w')
theorem vx_n {args : Array Value} {s : State} : ∀ w ∈ ([] : List Cond), w.before args s = true := fun _ h => nomatch h
theorem vx_own {args : Array Value} {s : State} {L : List Cond} (h1 : ∀ w ∈ L.filter vx_no, w.before args s = true)
    (hU : (Cond.isRef (.static Bundle.tN "UNASSIGNED_STACK" Bundle.steD)).before args s = true) (hN : (Cond.isRef (.static Bundle.tN "SUPPRESSED_SENTINEL" Bundle.listD)).before args s = true)
    (lU : (Cond.laysStatic Bundle.tN "UNASSIGNED_STACK" Bundle.steD).before args s = true) (lN : (Cond.laysStatic Bundle.tN "SUPPRESSED_SENTINEL" Bundle.listD).before args s = true) : ∀ w ∈ L, w.before args s = true := by
  intro w hw
  by_cases e1 : w = .isRef (.static Bundle.tN "UNASSIGNED_STACK" Bundle.steD)
  · rw [e1]; exact hU
  · by_cases e2 : w = .isRef (.static Bundle.tN "SUPPRESSED_SENTINEL" Bundle.listD)
    · rw [e2]; exact hN
    · by_cases e3 : w = .laysStatic Bundle.tN "UNASSIGNED_STACK" Bundle.steD
      · rw [e3]; exact lU
      · by_cases e4 : w = .laysStatic Bundle.tN "SUPPRESSED_SENTINEL" Bundle.listD
        · rw [e4]; exact lN
        · exact h1 w (List.mem_filter.mpr ⟨hw, by unfold vx_no; rw [decide_eq_true e1, decide_eq_true e2, decide_eq_true e3, decide_eq_true e4]; rfl⟩)
/-- where a static field lies, its class's statics cell in H -/
def vx_L (C n d : String) (A : Nat → Prop) (U : State) (H : Heap) : Prop := ∃ (c : ClassId) (k : Class) (i : Nat) (f : Field) (a : Nat) (cell : Cell), U.vm.findClass C = some c ∧ U.fieldFound? C n d = some (c, k, i, f) ∧ f.isStatic = true ∧ k.statics = some a ∧ H[a]? = some cell ∧ cell.vm.isStatics = true ∧ cell.cls = c ∧ f.slot < cell.slots.size ∧ k.staticTypes[f.slot]? = some f.type ∧ ¬ A a
theorem vx_L.moved {C n d : String} {A : Nat → Prop} {u U : State} {H : Heap} (hvm : u.vm.Alike U.vm) (h : vx_L C n d A u H) : vx_L C n d A U H := by
  obtain ⟨c, k, i, f, a, cell, h1, h2, h3, h4, h5, h6, h7, h8, h9, h10⟩ := h
  obtain ⟨k', hi', he⟩ := State.fieldFound?_setVm hvm h2
  exact ⟨c, k', i, f, a, cell, by rw [hvm.findClass]; exact h1, hi', h3, by rw [he]; exact h4, h5, h6, h7, h8, by rw [he]; exact h9, h10⟩
theorem vx_L.kept {C n d : String} {A : Nat → Prop} {U : State} {H H1 : Heap} (h : vx_L C n d A U H) (hq : ∀ a : Nat, a < H.size → ¬ A a → H1[a]? = H[a]?) : vx_L C n d A U H1 := by
  obtain ⟨c, k, i, f, a, cell, h1, h2, h3, h4, h5, h6, h7, h8, h9, h10⟩ := h
  exact ⟨c, k, i, f, a, cell, h1, h2, h3, h4, by rw [hq a (Array.getElem?_eq_some_iff.mp h5).1 h10]; exact h5, h6, h7, h8, h9, h10⟩
theorem vx_L.narrow {C n d : String} {A B : Nat → Prop} {U : State} {H : Heap} (h : vx_L C n d A U H) (hAB : ∀ q, B q → A q) : vx_L C n d B U H := by
  obtain ⟨c, k, i, f, a, cell, h1, h2, h3, h4, h5, h6, h7, h8, h9, h10⟩ := h
  exact ⟨c, k, i, f, a, cell, h1, h2, h3, h4, h5, h6, h7, h8, h9, fun z => h10 (hAB _ z)⟩
theorem vx_L.word {C n d : String} {A : Nat → Prop} {s : State} {args : Array Value} (h : vx_L C n d A s s.heap) : (Cond.laysStatic C n d).before args s = true := by
  obtain ⟨c, k, i, f, a, cell, h1, h2, h3, h4, h5, h6, h7, h8, h9, -⟩ := h
  show (Cond.laysStatic C n d).holds args s none s [] = true
  exact Cond.laysStatic_of h1 h2 h3 h4 h5 h6 h7 h8 h9
/-- .. and what it holds: null or some reference -/
def vx_Zq (C n d : String) (A : Nat → Prop) (U : State) (H : Heap) : Prop := va_Zq C n d A U H ∧ vx_L C n d A U H
theorem vx_Zq.moved {C n d : String} {A : Nat → Prop} {u U : State} {H : Heap} (hvm : u.vm.Alike U.vm) (h : vx_Zq C n d A u H) : vx_Zq C n d A U H := ⟨va_Zq.moved hvm h.1, vx_L.moved hvm h.2⟩
theorem vx_Zq.kept {C n d : String} {A : Nat → Prop} {U : State} {H H1 : Heap} (h : vx_Zq C n d A U H) (hq : ∀ a : Nat, a < H.size → ¬ A a → H1[a]? = H[a]?) : vx_Zq C n d A U H1 := ⟨va_Zq.kept h.1 hq, vx_L.kept h.2 hq⟩
theorem vx_Zq.narrow {C n d : String} {A B : Nat → Prop} {U : State} {H : Heap} (h : vx_Zq C n d A U H) (hAB : ∀ q, B q → A q) : vx_Zq C n d B U H := ⟨va_Zq.narrow h.1 hAB, vx_L.narrow h.2 hAB⟩
theorem vx_Zqof {args : Array Value} {s : State} {C n d : String} {A : Nat → Prop} (hl : (Cond.laysStatic C n d).before args s = true) (hini : (Cond.initialized C).before args s = true) (h : (Cond.isRef (.static C n d)).before args s = true) (hA : ∀ a : Nat, a < s.heap.size → ¬ A a) : vx_Zq C n d A s s.heap := by
  refine ⟨va_Zqof hl hini h hA, ?_⟩
  obtain ⟨c, k, i, f, a, cell, h1, h2, h3, h4, h5, h6, h7, h8, h9⟩ := Cond.laysStatic_spec hl
  exact ⟨c, k, i, f, a, cell, h1, h2, h3, h4, h5, h6, h7, h8, h9, hA a (Array.getElem?_eq_some_iff.mp h5).1⟩
theorem vx_isRef {C n d : String} {v : Value} {A : Nat → Prop} {s : State} {args : Array Value} (h : va_Z C n d v A s s.heap) (hv : v.isRef = true) : (Cond.isRef (.static C n d)).before args s = true := by
  obtain ⟨cf, kf, fi, f, a, cell, h1, h2, h3, h4, h5, h6, h7, -⟩ := h
  have he : (Term.static C n d).eval args s none [] s = some v := by
    simp [Term.eval, State.fieldNamed?, h1, h2, h4, h5, h6, h7]
  simp only [Cond.before, Cond.holds, Cond.value, he]
  cases v <;> simp_all [Value.isRef]
theorem vx_isRefq {C n d : String} {A : Nat → Prop} {s : State} {args : Array Value} (h : va_Zq C n d A s s.heap) : (Cond.isRef (.static C n d)).before args s = true := by
  rcases h with h | ⟨t, h⟩
  · exact vx_isRef h rfl
  · exact vx_isRef h rfl
/-- the same frame, seen from here: as if the method were called anew in this heap -/
theorem vx_rebase {T : State} (X : Stand p l e R s m args below meth c T locs cells slots) {R' : Room} (hf : R'.frames ≤ R.frames) (hl : R'.locals ≤ R.locals) (hc : cells + R'.cells ≤ R.cells) (hs : slots + R'.slots ≤ R.slots) :
    Stand p l e R' ((T.setVm s.vm).setFrames (.invoking m args :: below)) m args below meth c T [] 0 0 := by
  have htop : (T.setVm s.vm).topJava?.isSome := X.here.top
  have hF : ((T.setVm s.vm).setFrames (.invoking m args :: below)).frames = .invoking m args :: below := State.frames_setFrames _ (State.cur_lt_of_top htop)
  obtain ⟨g₀, hg0⟩ := Option.isSome_iff_exists.mp htop
  obtain ⟨r, hr⟩ := State.topJava?_eq_some.mp hg0
  have hl9 : e.platform.stackLimits (T.setVm s.vm).me = e.platform.stackLimits s.me := X.limits
  have hb9 : (T.setVm s.vm).me.stackBytes = s.me.stackBytes := X.bytes
  refine ⟨X.admits, X.cas, X.clock, hF, ?_, X.hears, X.method, X.code, X.here, X.tail, X.warmed, ?_, ?_, ?_⟩
  · have h := X.room
    have hU : ((T.setVm s.vm).setFrames (.invoking m args :: below)).localsInUse = s.localsInUse := by
      rw [State.localsInUse_invoking hF (meth := meth) (c := c) X.method X.code, State.localsInUse_invoking X.frames X.method X.code]
    simp only [State.hasRoom, Bool.and_eq_true, decide_eq_true_eq] at h ⊢
    obtain ⟨⟨⟨⟨h1, h2, h3, h4, h5, h6⟩, h7⟩, h8⟩, h9⟩ := h
    rw [X.frames, List.length_cons] at h2 h3
    have q1 := X.heapSize
    have q2 := X.used
    simp only [hF, hU, List.length_cons, State.stackLimits_setFrames, State.stackBytes_setFrames, hl9, hb9]
    refine ⟨⟨⟨⟨by omega, by omega, by omega, by omega, by omega, h6⟩, ?_⟩, ?_⟩, X.book⟩
    · show T.heap.size + R'.cells ≤ e.platform.maxCells
      omega
    · show T.slotsUsed + R'.slots ≤ e.platform.maxSlots
      omega
  · rw [State.stackLimits_setFrames]; rfl
  · rw [State.stackBytes_setFrames]; rfl
  · refine ⟨?_, Nat.le_refl _, Nat.le_refl _, ?_, ?_, fun a c9 h9 => ⟨c9, h9, rfl, rfl, fun _ _ => rfl⟩⟩
    · obtain ⟨t, ht, -⟩ := State.frames_cons hr
      show T.setVm s.vm = { ((T.setVm s.vm).setFrames (.invoking m args :: below)).setFrames (T.setVm s.vm).frames with heap := T.heap, slotsUsed := T.slotsUsed }
      rw [State.setFrames_setFrames, State.setFrames_self ht]
      rfl
    · show T.slotsUsed = T.slotsUsed + ((T.heap.toList.drop T.heap.size).map (·.slots.size)).sum
      rw [List.drop_eq_nil_of_le (Nat.le_of_eq Array.length_toList)]
      rfl
    · show ((T.heap.toList.drop T.heap.size).map (·.slots.size)).sum ≤ 0
      rw [List.drop_eq_nil_of_le (Nat.le_of_eq Array.length_toList)]
      exact Nat.le_refl _
/-- 'throw new E()': new; dup; invokespecial; athrow -/
theorem vx_throw0 {cc : ByteArray} {pc : Nat} (hexec : p.tables.exec = Jvm.exec) (hb : c.code = cc) (hl : l.stackTraces = false) {own cls : String} {names : List String} {ik ic mc ms : Nat} {A : Nat → Prop}
    (hown : s.vm.findClass own = some m.cls) (hcls : Bundle.fit cls = true) (hnames : ∀ n ∈ names, Bundle.fit n = true)
    (hk : (Cond.classLink own ik cls).before args s = true) (hini : (Cond.initialized cls).before args s = true) (hat : ∀ w ∈ vx_at0 own ic cls names, w.before args s = true)
    (hgood : ∀ w ∈ Cond.classLink own ik cls :: Cond.initialized cls :: vx_at0 own ic cls names, vx_ot w = true)
    (hU : vx_Zq Bundle.tN "UNASSIGNED_STACK" Bundle.steD A s s.heap) (hN : vx_Zq Bundle.tN "SUPPRESSED_SENTINEL" Bundle.listD A s s.heap) (hS : va_S A s.heap H locs) (hsize : ls.size = c.maxLocals)
    (d0 : decode cc pc = .ok (.new ik, 3)) (d3 : decode cc (pc + 3) = .ok (.dup, 1)) (d4 : decode cc (pc + 4) = .ok (.invokespecial ic, 3)) (d7 : decode cc (pc + 7) = .ok (.athrow, 1))
    (hout : ∀ x ∈ c.exceptionTable.toList, covers x (pc + 7) = false)
    (hRframes : names.length + 3 < R.frames) (hRlocals : (rest.map fun v => v.category).sum + (13 * (names.length + 1) + 42) ≤ R.locals) (hRcells : cells + 1 ≤ R.cells) (hRslots : slots + 6 ≤ R.slots) (hlocks : meth.locks = false)
    (hx : ∀ t : State, s.vm.Alike t.vm → H.size ≤ t.heap.size → (∀ q : Nat, q < H.size → t.heap[q]? = H[q]?) → XC cls s t)
    (hf : ∀ z ∈ locs, free z.base) (hc : cells + 1 ≤ mc) (hs : slots + 6 ≤ ms) :
    W p l e R s m args below meth c H locs cells slots (vx_MQ below Qc XC args s mc ms free) (F0 m pc ls rest) := by
  intro T hT X
  have htr : e.platform.stackTraces = false := (show e.platform.stackTraces = l.stackTraces by rw [X.admits.platform]).trans hl
  have Y := vx_rebase X (R' := { frames := R.frames, locals := R.locals, cells := 1, slots := 6 }) (Nat.le_refl _) (Nat.le_refl _) hRcells hRslots
  obtain ⟨s', hA⟩ : ∃ z, z = (T.setVm s.vm).setFrames (.invoking m args :: below) := ⟨_, rfl⟩
  rw [← hA] at Y
  have hvm : s'.vm = s.vm := by rw [hA]; rfl
  have hhp : s'.heap = H := by rw [hA]; exact hT
  have hW0 : s.WarmedH s'.vm := by rw [hvm]; exact State.WarmedH.refl s
  have hat' : ∀ w ∈ vx_at0 own ic cls names, w.before args s' = true := fun w hw => vx_ot_at hW0 hvm.symm (hgood w (List.mem_cons_of_mem _ (List.mem_cons_of_mem _ hw))) (hat w hw)
  have hk' : (Cond.classLink own ik cls).before args s' = true := vx_ot_at hW0 hvm.symm (hgood _ List.mem_cons_self) hk
  have hini' : (Cond.initialized cls).before args s' = true := vx_ot_at hW0 hvm.symm (hgood _ (List.mem_cons_of_mem _ List.mem_cons_self)) hini
  have hU' : vx_Zq Bundle.tN "UNASSIGNED_STACK" Bundle.steD A s' s'.heap := by rw [hhp]; exact vx_Zq.moved hW0.alike (hU.kept hS.2.1)
  have hN' : vx_Zq Bundle.tN "SUPPRESSED_SENTINEL" Bundle.listD A s' s'.heap := by rw [hhp]; exact vx_Zq.moved hW0.alike (hN.kept hS.2.1)
  have h : ∀ w ∈ Bundle.ownAtoms0 own ic cls names, w.before args s' = true := vx_own hat' (vx_isRefq hU'.1) (vx_isRefq hN'.1) hU'.2.word hN'.2.word
  have hown' : s'.vm.findClass own = some m.cls := by rw [hvm]; exact hown
  have hins : (Cond.instantiable cls 6).before args s' = true := h _ (by simp [Bundle.ownAtoms0])
  obtain ⟨vm₁, cX, kX, hfX, hkX, -, -, X₁, st1⟩ := Y.newCold hexec (own := own) (C := cls) (index := ik) (n := 6) hown' hk' hins hini'
    (g := F0 m pc ls rest) rfl (by rw [hb]; exact d0) (Nat.le_refl _) (Nat.le_refl _)
  generalize hT1 : (T.setVm vm₁).pushCell { cls := cX, slots := kX.instanceTypes.map defaultValue, vm := .none } = T1 at X₁ st1
  have hcat : (Value.ref T.heap.size).category = 1 := rfl
  have hcellA : T1.heap[T.heap.size]? = some (freshCell cX kX) := by rw [← hT1]; exact State.heap_pushCell_size _ _
  have d3' : decode c.code (pc + 3) = .ok (.dup, 1) := by rw [hb]; exact d3
  obtain ⟨U, hsteps, hrun, hend, hW, hsame, ce, hce, hO⟩ := X₁.ctorThrow0 hexec htr (own := own) (cls := cls) (names := names) (ic := ic) hown' hcls hnames h (fun x hx => nomatch hx) hfX hkX hcellA (by rw [hhp, hT]; exact Nat.le_refl _)
    (g := { method := m, pc := pc + 4, locals := ls, stack := .ref T.heap.size :: .ref T.heap.size :: rest, locked := none }) rfl hsize rfl rfl (rest := rest) rfl
    (by rw [hb]; exact d4) (by rw [hb]; exact d7) hout hRframes (by simp only [List.map_cons, List.sum_cons, hcat]; omega) hlocks
  obtain ⟨f1, f2⟩ := vx_frame hsame
  rw [hhp] at f1 f2
  have hWs : s.WarmedH U.vm := State.WarmedH.trans hW0 hW
  have hcl : s.vm.findClass cls = some ce.cls := by
    have h9 := hO.cls
    rw [hvm] at h9
    exact h9
  have hall : s.sameButNew ({ U with vm := s.vm } : State) locs mc ms := by
    subst hA
    obtain ⟨e1, e2⟩ := hsame
    rw [State.setFrames_setFrames] at e1
    have h2 : (T.setVm s.vm).sameButNew ({ U with vm := s.vm } : State) [] (0 + 1) (0 + 6) := ⟨e1, e2⟩
    have h3 := X.same.trans h2
    rw [List.append_nil] at h3
    exact h3.mono hc hs
  refine ⟨U, ?_, .threw T.heap.size, hrun, hend, Or.inr ⟨T.heap.size, rfl, cls, ce, locs, hx U hWs.alike f1 (fun q hq => f2 q hq (fun z hz => nomatch hz)), hce, hO.vm, hcl, hWs, hall, hf⟩⟩
  refine st1 _ ?_
  show Steps p.tables e below (T1.setTop { method := m, pc := pc + 3, locals := ls, stack := .ref T.heap.size :: rest, locked := none }) _
  jvm_step X₁.here [X₁.here.top, hexec, d3', Value.category]
  exact hsteps
/-- 'throw new E("text")': new; dup; ldc; invokespecial; athrow -/
theorem vx_throwS {cc : ByteArray} {pc : Nat} (hexec : p.tables.exec = Jvm.exec) (hb : c.code = cc) (hl : l.stackTraces = false) {own cls text : String} {names : List String} {ik is ic mc ms sa : Nat} {A : Nat → Prop}
    (hown : s.vm.findClass own = some m.cls) (hcls : Bundle.fit cls = true) (hnames : ∀ n ∈ names, Bundle.fit n = true)
    (hk : (Cond.classLink own ik cls).before args s = true) (hini : (Cond.initialized cls).before args s = true) (hstr : vk_R own is text sa s) (hat : ∀ w ∈ vx_atS own ic cls names, w.before args s = true)
    (hgood : ∀ w ∈ Cond.classLink own ik cls :: Cond.initialized cls :: vx_atS own ic cls names, vx_ot w = true)
    (hU : vx_Zq Bundle.tN "UNASSIGNED_STACK" Bundle.steD A s s.heap) (hN : vx_Zq Bundle.tN "SUPPRESSED_SENTINEL" Bundle.listD A s s.heap) (hS : va_S A s.heap H locs) (hsize : ls.size = c.maxLocals)
    (d0 : decode cc pc = .ok (.new ik, 3)) (d3 : decode cc (pc + 3) = .ok (.dup, 1)) (d4 : decode cc (pc + 4) = .ok (.ldc is, 2)) (d6 : decode cc (pc + 6) = .ok (.invokespecial ic, 3)) (d9 : decode cc (pc + 9) = .ok (.athrow, 1))
    (hout : ∀ x ∈ c.exceptionTable.toList, covers x (pc + 9) = false)
    (hRframes : names.length + 3 < R.frames) (hRlocals : (rest.map fun v => v.category).sum + (13 * (names.length + 1) + 43) ≤ R.locals) (hRcells : cells + 1 ≤ R.cells) (hRslots : slots + 6 ≤ R.slots) (hlocks : meth.locks = false)
    (hx : ∀ t : State, s.vm.Alike t.vm → H.size ≤ t.heap.size → (∀ q : Nat, q < H.size → t.heap[q]? = H[q]?) → XC cls s t)
    (hf : ∀ z ∈ locs, free z.base) (hc : cells + 1 ≤ mc) (hs : slots + 6 ≤ ms) :
    W p l e R s m args below meth c H locs cells slots (vx_MQ below Qc XC args s mc ms free) (F0 m pc ls rest) := by
  intro T hT X
  have htr : e.platform.stackTraces = false := (show e.platform.stackTraces = l.stackTraces by rw [X.admits.platform]).trans hl
  have Y := vx_rebase X (R' := { frames := R.frames, locals := R.locals, cells := 1, slots := 6 }) (Nat.le_refl _) (Nat.le_refl _) hRcells hRslots
  obtain ⟨s', hA⟩ : ∃ z, z = (T.setVm s.vm).setFrames (.invoking m args :: below) := ⟨_, rfl⟩
  rw [← hA] at Y
  have hvm : s'.vm = s.vm := by rw [hA]; rfl
  have hhp : s'.heap = H := by rw [hA]; exact hT
  have hW0 : s.WarmedH s'.vm := by rw [hvm]; exact State.WarmedH.refl s
  have hat' : ∀ w ∈ vx_atS own ic cls names, w.before args s' = true := fun w hw => vx_ot_at hW0 hvm.symm (hgood w (List.mem_cons_of_mem _ (List.mem_cons_of_mem _ hw))) (hat w hw)
  have hk' : (Cond.classLink own ik cls).before args s' = true := vx_ot_at hW0 hvm.symm (hgood _ List.mem_cons_self) hk
  have hini' : (Cond.initialized cls).before args s' = true := vx_ot_at hW0 hvm.symm (hgood _ (List.mem_cons_of_mem _ List.mem_cons_self)) hini
  have hU' : vx_Zq Bundle.tN "UNASSIGNED_STACK" Bundle.steD A s' s'.heap := by rw [hhp]; exact vx_Zq.moved hW0.alike (hU.kept hS.2.1)
  have hN' : vx_Zq Bundle.tN "SUPPRESSED_SENTINEL" Bundle.listD A s' s'.heap := by rw [hhp]; exact vx_Zq.moved hW0.alike (hN.kept hS.2.1)
  have h : ∀ w ∈ Bundle.ownAtoms own ic cls names, w.before args s' = true := vx_own hat' (vx_isRefq hU'.1) (vx_isRefq hN'.1) hU'.2.word hN'.2.word
  have hown' : s'.vm.findClass own = some m.cls := by rw [hvm]; exact hown
  have hins : (Cond.instantiable cls 6).before args s' = true := h _ (by simp [Bundle.ownAtoms])
  obtain ⟨vm₁, cX, kX, hfX, hkX, -, -, X₁, st1⟩ := Y.newCold hexec (own := own) (C := cls) (index := ik) (n := 6) hown' hk' hins hini'
    (g := F0 m pc ls rest) rfl (by rw [hb]; exact d0) (Nat.le_refl _) (Nat.le_refl _)
  generalize hT1 : (T.setVm vm₁).pushCell { cls := cX, slots := kX.instanceTypes.map defaultValue, vm := .none } = T1 at X₁ st1
  have hcat : (Value.ref T.heap.size).category = 1 := rfl
  have hcellA : T1.heap[T.heap.size]? = some (freshCell cX kX) := by rw [← hT1]; exact State.heap_pushCell_size _ _
  have d3' : decode c.code (pc + 3) = .ok (.dup, 1) := by rw [hb]; exact d3
  have d4' : decode c.code (pc + 4) = .ok (.ldc is, 2) := by rw [hb]; exact d4
  have hstr' : vk_R own is text sa s' := vk_R.warm hW0 hstr
  obtain ⟨U, hsteps, hrun, hend, hW, hsame, ce, hce, hO⟩ := X₁.ctorThrowS hexec htr (own := own) (cls := cls) (names := names) (ic := ic) hown' hcls hnames h (fun x hx => nomatch hx) hfX hkX hcellA (by rw [hhp, hT]; exact Nat.le_refl _) (msg := .ref sa) rfl
    (g := { method := m, pc := pc + 6, locals := ls, stack := .ref sa :: .ref T.heap.size :: .ref T.heap.size :: rest, locked := none }) rfl hsize rfl rfl (rest := rest) rfl
    (by rw [hb]; exact d6) (by rw [hb]; exact d9) hout hRframes (by simp only [List.map_cons, List.sum_cons, hcat]; omega) hlocks
  obtain ⟨f1, f2⟩ := vx_frame hsame
  rw [hhp] at f1 f2
  have hWs : s.WarmedH U.vm := State.WarmedH.trans hW0 hW
  have hcl : s.vm.findClass cls = some ce.cls := by
    have h9 := hO.cls
    rw [hvm] at h9
    exact h9
  have hall : s.sameButNew ({ U with vm := s.vm } : State) locs mc ms := by
    subst hA
    obtain ⟨e1, e2⟩ := hsame
    rw [State.setFrames_setFrames] at e1
    have h2 : (T.setVm s.vm).sameButNew ({ U with vm := s.vm } : State) [] (0 + 1) (0 + 6) := ⟨e1, e2⟩
    have h3 := X.same.trans h2
    rw [List.append_nil] at h3
    exact h3.mono hc hs
  refine ⟨U, ?_, .threw T.heap.size, hrun, hend, Or.inr ⟨T.heap.size, rfl, cls, ce, locs, hx U hWs.alike f1 (fun q hq => f2 q hq (fun z hz => nomatch hz)), hce, hO.vm, hcl, hWs, hall, hf⟩⟩
  refine st1 _ ?_
  show Steps p.tables e below (T1.setTop { method := m, pc := pc + 3, locals := ls, stack := .ref T.heap.size :: rest, locked := none }) _
  jvm_step X₁.here [X₁.here.top, hexec, d3', Value.category]
  exact X₁.ldcString hexec (own := own) (text := text) (index := is) (a := sa) hown' hstr'.1 hstr'.2
    (g := { method := m, pc := pc + 4, locals := ls, stack := .ref T.heap.size :: .ref T.heap.size :: rest, locked := none }) rfl d4' _ hsteps
/-- 'throw new E("text")', the text by a wide index -/
theorem vx_throwSW {cc : ByteArray} {pc : Nat} (hexec : p.tables.exec = Jvm.exec) (hb : c.code = cc) (hl : l.stackTraces = false) {own cls text : String} {names : List String} {ik is ic mc ms sa : Nat} {A : Nat → Prop}
    (hown : s.vm.findClass own = some m.cls) (hcls : Bundle.fit cls = true) (hnames : ∀ n ∈ names, Bundle.fit n = true)
    (hk : (Cond.classLink own ik cls).before args s = true) (hini : (Cond.initialized cls).before args s = true) (hstr : vk_R own is text sa s) (hat : ∀ w ∈ vx_atS own ic cls names, w.before args s = true)
    (hgood : ∀ w ∈ Cond.classLink own ik cls :: Cond.initialized cls :: vx_atS own ic cls names, vx_ot w = true)
    (hU : vx_Zq Bundle.tN "UNASSIGNED_STACK" Bundle.steD A s s.heap) (hN : vx_Zq Bundle.tN "SUPPRESSED_SENTINEL" Bundle.listD A s s.heap) (hS : va_S A s.heap H locs) (hsize : ls.size = c.maxLocals)
    (d0 : decode cc pc = .ok (.new ik, 3)) (d3 : decode cc (pc + 3) = .ok (.dup, 1)) (d4 : decode cc (pc + 4) = .ok (.ldc_w is, 3)) (d7 : decode cc (pc + 7) = .ok (.invokespecial ic, 3)) (d10 : decode cc (pc + 10) = .ok (.athrow, 1))
    (hout : ∀ x ∈ c.exceptionTable.toList, covers x (pc + 10) = false)
    (hRframes : names.length + 3 < R.frames) (hRlocals : (rest.map fun v => v.category).sum + (13 * (names.length + 1) + 43) ≤ R.locals) (hRcells : cells + 1 ≤ R.cells) (hRslots : slots + 6 ≤ R.slots) (hlocks : meth.locks = false)
    (hx : ∀ t : State, s.vm.Alike t.vm → H.size ≤ t.heap.size → (∀ q : Nat, q < H.size → t.heap[q]? = H[q]?) → XC cls s t)
    (hf : ∀ z ∈ locs, free z.base) (hc : cells + 1 ≤ mc) (hs : slots + 6 ≤ ms) :
    W p l e R s m args below meth c H locs cells slots (vx_MQ below Qc XC args s mc ms free) (F0 m pc ls rest) := by
  intro T hT X
  have htr : e.platform.stackTraces = false := (show e.platform.stackTraces = l.stackTraces by rw [X.admits.platform]).trans hl
  have Y := vx_rebase X (R' := { frames := R.frames, locals := R.locals, cells := 1, slots := 6 }) (Nat.le_refl _) (Nat.le_refl _) hRcells hRslots
  obtain ⟨s', hA⟩ : ∃ z, z = (T.setVm s.vm).setFrames (.invoking m args :: below) := ⟨_, rfl⟩
  rw [← hA] at Y
  have hvm : s'.vm = s.vm := by rw [hA]; rfl
  have hhp : s'.heap = H := by rw [hA]; exact hT
  have hW0 : s.WarmedH s'.vm := by rw [hvm]; exact State.WarmedH.refl s
  have hat' : ∀ w ∈ vx_atS own ic cls names, w.before args s' = true := fun w hw => vx_ot_at hW0 hvm.symm (hgood w (List.mem_cons_of_mem _ (List.mem_cons_of_mem _ hw))) (hat w hw)
  have hk' : (Cond.classLink own ik cls).before args s' = true := vx_ot_at hW0 hvm.symm (hgood _ List.mem_cons_self) hk
  have hini' : (Cond.initialized cls).before args s' = true := vx_ot_at hW0 hvm.symm (hgood _ (List.mem_cons_of_mem _ List.mem_cons_self)) hini
  have hU' : vx_Zq Bundle.tN "UNASSIGNED_STACK" Bundle.steD A s' s'.heap := by rw [hhp]; exact vx_Zq.moved hW0.alike (hU.kept hS.2.1)
  have hN' : vx_Zq Bundle.tN "SUPPRESSED_SENTINEL" Bundle.listD A s' s'.heap := by rw [hhp]; exact vx_Zq.moved hW0.alike (hN.kept hS.2.1)
  have h : ∀ w ∈ Bundle.ownAtoms own ic cls names, w.before args s' = true := vx_own hat' (vx_isRefq hU'.1) (vx_isRefq hN'.1) hU'.2.word hN'.2.word
  have hown' : s'.vm.findClass own = some m.cls := by rw [hvm]; exact hown
  have hins : (Cond.instantiable cls 6).before args s' = true := h _ (by simp [Bundle.ownAtoms])
  obtain ⟨vm₁, cX, kX, hfX, hkX, -, -, X₁, st1⟩ := Y.newCold hexec (own := own) (C := cls) (index := ik) (n := 6) hown' hk' hins hini'
    (g := F0 m pc ls rest) rfl (by rw [hb]; exact d0) (Nat.le_refl _) (Nat.le_refl _)
  generalize hT1 : (T.setVm vm₁).pushCell { cls := cX, slots := kX.instanceTypes.map defaultValue, vm := .none } = T1 at X₁ st1
  have hcat : (Value.ref T.heap.size).category = 1 := rfl
  have hcellA : T1.heap[T.heap.size]? = some (freshCell cX kX) := by rw [← hT1]; exact State.heap_pushCell_size _ _
  have d3' : decode c.code (pc + 3) = .ok (.dup, 1) := by rw [hb]; exact d3
  have d4' : decode c.code (pc + 4) = .ok (.ldc_w is, 3) := by rw [hb]; exact d4
  have hstr' : vk_R own is text sa s' := vk_R.warm hW0 hstr
  obtain ⟨U, hsteps, hrun, hend, hW, hsame, ce, hce, hO⟩ := X₁.ctorThrowS hexec htr (own := own) (cls := cls) (names := names) (ic := ic) hown' hcls hnames h (fun x hx => nomatch hx) hfX hkX hcellA (by rw [hhp, hT]; exact Nat.le_refl _) (msg := .ref sa) rfl
    (g := { method := m, pc := pc + 7, locals := ls, stack := .ref sa :: .ref T.heap.size :: .ref T.heap.size :: rest, locked := none }) rfl hsize rfl rfl (rest := rest) rfl
    (by rw [hb]; exact d7) (by rw [hb]; exact d10) hout hRframes (by simp only [List.map_cons, List.sum_cons, hcat]; omega) hlocks
  obtain ⟨f1, f2⟩ := vx_frame hsame
  rw [hhp] at f1 f2
  have hWs : s.WarmedH U.vm := State.WarmedH.trans hW0 hW
  have hcl : s.vm.findClass cls = some ce.cls := by
    have h9 := hO.cls
    rw [hvm] at h9
    exact h9
  have hall : s.sameButNew ({ U with vm := s.vm } : State) locs mc ms := by
    subst hA
    obtain ⟨e1, e2⟩ := hsame
    rw [State.setFrames_setFrames] at e1
    have h2 : (T.setVm s.vm).sameButNew ({ U with vm := s.vm } : State) [] (0 + 1) (0 + 6) := ⟨e1, e2⟩
    have h3 := X.same.trans h2
    rw [List.append_nil] at h3
    exact h3.mono hc hs
  refine ⟨U, ?_, .threw T.heap.size, hrun, hend, Or.inr ⟨T.heap.size, rfl, cls, ce, locs, hx U hWs.alike f1 (fun q hq => f2 q hq (fun z hz => nomatch hz)), hce, hO.vm, hcl, hWs, hall, hf⟩⟩
  refine st1 _ ?_
  show Steps p.tables e below (T1.setTop { method := m, pc := pc + 3, locals := ls, stack := .ref T.heap.size :: rest, locked := none }) _
  jvm_step X₁.here [X₁.here.top, hexec, d3', Value.category]
  exact X₁.ldcStringW hexec (own := own) (text := text) (index := is) (a := sa) hown' hstr'.1 hstr'.2
    (g := { method := m, pc := pc + 4, locals := ls, stack := .ref T.heap.size :: .ref T.heap.size :: rest, locked := none }) rfl d4' _ hsteps
end Ends
section Bodies
variable {l : Launch}
theorem vx_ofW {y : MethodName} {ws ws' : List Cond} {rm : Room} {Pc : Array Value → State → Prop} {Qc : Array Value → State → Outcome → State → Prop} {XC : String → State → State → Prop} {mc ms : Nat} {free : Addr → Prop} {cc : ByteArray} {maxL : Nat} {ret : Option FieldType}
    (hy : plainName y.cls = true) (hw : ws = Cond.code y cc maxL ret :: ws')
    (body : ∀ p e s m args below meth c s₁, BodyLoose p l y (headSpec ws rm) cc maxL ret e s m args below meth c s₁ → c.maxLocals = maxL → (∀ x ∈ c.exceptionTable.toList, False) → Pc args s →
      W p l e (headSpec ws rm).room s m args below meth c s.heap [] 0 0 (vx_MQ below Qc XC args s mc ms free) (entryFrame m args maxL)) : vx_Met l y ws rm Pc Qc XC mc ms free := by
  refine MetFree.of_bodyS (code := cc) (maxLocals := maxL) (ret := ret) hy ?_ ?_
  · intro args s m h hn
    obtain ⟨meth, c, h1, h2, h3, h4, h5, h6, -, -⟩ := Cond.code_spec hn (atoms_spec (ws := ws) h _ (by rw [hw]; exact List.mem_cons_self))
    exact ⟨meth, c, h1, h2, h3, h4, h5, h6⟩
  · intro p e s m args below meth c s₁ B hml hP _
    have hh0 : s₁.heap = s.heap := by rw [B.state]; rfl
    have ht : ∀ x ∈ c.exceptionTable.toList, False := by
      obtain ⟨meth9, c9, h1, h2, -, -, -, -, h7, -⟩ := Cond.code_spec B.named (atoms_spec (ws := ws) B.pre _ (by rw [hw]; exact List.mem_cons_self))
      cases Option.some.inj (h1.symm.trans B.method)
      cases Option.some.inj (h2.symm.trans (Stand.of_body B).code)
      intro x hx
      rw [Array.isEmpty_iff.mp h7] at hx
      cases hx
    obtain ⟨t, a1, o, b1, b2, b3⟩ := body p e s m args below meth c s₁ B hml ht hP s₁ hh0 (Stand.of_body B)
    exact ⟨t, o, a1, b1, b2, b3⟩
/-- the table of a body with handlers -/
theorem vx_table {p : Program} {x y : MethodName} {S : Spec} {cc bytes : ByteArray} {maxL maxL' : Nat} {ret ret' : Option FieldType} {e : Env} {s s₁ : State} {m : MethodId} {args : Array Value} {below : List Frame} {meth : Method} {c : Code} {hh : List (Nat × Nat × Nat × Nat)}
    (B : BodyLoose p l y S cc maxL ret e s m args below meth c s₁) (h : (Cond.codeWith y bytes maxL' ret' hh).before args s = true) : c.exceptionTable.toList = tableOf hh := by
  obtain ⟨m9, meth9, c9, hn9, h1, h2, -, -, h6, -⟩ := Cond.codeWith_spec h
  cases Option.some.inj (hn9.symm.trans B.named)
  cases Option.some.inj (h1.symm.trans B.method)
  cases Option.some.inj (h2.symm.trans (Stand.of_body B).code)
  rw [← h6, table_eq]
end Bodies
end VXA
/-! ===== END ===== -/
/-! ===== BEGIN a static call of a method with an exception table ===== -/
section VXS
variable {p : Program} {l : Launch} {e : Env} {R : Room} {s : State} {m : MethodId} {args : Array Value} {below : List Frame} {meth : Method} {c : Code} {T : State} {H : Heap} {locs : List Loc} {cells slots : Nat}
abbrev vx_CSW (R : Room) (s : State) (args : Array Value) (own : String) (index : Nat) (y : MethodName) (bytes : ByteArray) (maxL : Nat) (ret : Option FieldType) (hh : List (Nat × Nat × Nat × Nat)) (ws : List Cond) (rm : Room) (mc ms n : Nat) : Prop :=
  (rm.cells = mc ∧ rm.slots = ms ∧ rm.frames + 1 ≤ R.frames ∧ 8 + (maxL + 11) + rm.locals ≤ R.locals ∧ (∀ w ∈ ws, ∀ (a' : Array Value) (U : State), s.WarmedH U.vm → w.before a' U = true) ∧ Cond.codeWith y bytes maxL ret hh ∈ ws) ∧
  (Cond.codeWith y bytes maxL ret hh).before args s = true ∧ (Cond.initialized y.cls).before args s = true ∧ (y.cls ≠ "java/lang/invoke/MethodHandle" ∧ y.cls ≠ "java/lang/invoke/VarHandle") ∧
  (∀ sig, parseMethodDescriptor y.desc = some sig → n = sig.parameters.length) ∧ (Cond.methodLink own index y).before args s = true ∧ (Cond.static y).before args s = true
theorem vx_cwSW {own : String} {index maxL mc ms : Nat} {y : MethodName} {bytes : ByteArray} {ret : Option FieldType} {hh : List (Nat × Nat × Nat × Nat)} {Ts ws ws' : List Cond} {rm : Room} (n : Nat) (ht : ∀ w ∈ Ts, w.before args s = true) (hT : GoodIn Ts (va_wsS own index y ws)) (hw : ws = Cond.codeWith y bytes maxL ret hh :: ws') (hrc : rm.cells = mc) (hrs : rm.slots = ms)
    (hd : y.cls ≠ "java/lang/invoke/MethodHandle" ∧ y.cls ≠ "java/lang/invoke/VarHandle" ∧ (parseMethodDescriptor y.desc).map (fun d => d.parameters.length) = some n) (hR : rm.frames + 1 ≤ R.frames ∧ 8 + (maxL + 11) + rm.locals ≤ R.locals) :
    vx_CSW R s args own index y bytes maxL ret hh ws rm mc ms n := by
  have ok : ∀ w ∈ va_wsS own index y ws, w.before args s = true := fun w h => ht w (hT w h).1
  have hG : GoodIn Ts ws := fun w h => hT w (by unfold va_wsS; exact List.mem_append_right _ h)
  have hc : Cond.codeWith y bytes maxL ret hh ∈ ws := by rw [hw]; exact List.mem_cons_self
  refine ⟨⟨hrc, hrs, hR.1, hR.2, pay_in ht hG, hc⟩, ht _ (hG _ hc).1, ok _ (by simp [va_wsS]), ⟨hd.1, hd.2.1⟩, fun sig h => ?_, ok _ (by simp [va_wsS]), ok _ (by simp [va_wsS])⟩
  have h2 := hd.2.2
  rw [h] at h2
  exact (Option.some.inj h2).symm
theorem vx_callSW (X : Stand p l e R s m args below meth c T locs cells slots) (hexec : p.tables.exec = Jvm.exec) {own : String} {index : Nat} {y : MethodName} {bytes : ByteArray} {maxL : Nat} {ret : Option FieldType} {hh : List (Nat × Nat × Nat × Nat)}
    (hown : s.vm.findClass own = some m.cls) (hlink : (Cond.methodLink own index y).before args s = true) (hstat : (Cond.static y).before args s = true) (hinit : (Cond.initialized y.cls).before args s = true)
    (hcode : (Cond.codeWith y bytes maxL ret hh).before args s = true) (hy : y.cls ≠ "java/lang/invoke/MethodHandle" ∧ y.cls ≠ "java/lang/invoke/VarHandle")
    {W9 : Nat} {Pre : Pt → Array Value → Prop} {Post : Pt → Array Value → Option Value → Pt → Prop} (hK : Back l R p e below s args y 3 W9 Pre Post)
    {g : JFrame} (hg : g.method = m) (hsize : g.locals.size = c.maxLocals) {argsL rest : List Value} (hlen : ∀ sig, parseMethodDescriptor y.desc = some sig → argsL.length = sig.parameters.length)
    (hstack : g.stack = argsL.reverse ++ rest) (hW : 2 * g.monitorRoom + (rest.map fun v => v.category).sum ≤ W9) (hdg : decode c.code g.pc = .ok (.invokestatic index, 3))
    (hpre : ∀ vm₁, s.WarmedH vm₁ → Pre ⟨T.setVm vm₁, locs, cells, slots⟩ argsL.toArray) :
    ∃ (v : Option Value) (vm₁ : Vm) (B : Pt), s.WarmedH vm₁ ∧ Stand p l e R s m args below meth c B.U B.locs B.cells B.slots ∧ Post ⟨T.setVm vm₁, locs, cells, slots⟩ argsL.toArray v B ∧
      ∀ target, Steps p.tables e below (B.U.setTop { g with pc := g.pc + 3, stack := v.toList ++ rest }) target → Steps p.tables e below (T.setTop g) target := by
  obtain ⟨mk, methM, cM, hnamed, hmethM, -, -, -, -, -, -, hsigM⟩ := Cond.codeWith_spec hcode
  have hstatic : methM.isStatic = true := Cond.static_spec hnamed hmethM hstat
  obtain ⟨kP, hkP, -⟩ := className_of_methodNamed hnamed
  have hinitP : kP.init = .initialized := Cond.initialized_spec (findClass_of_methodNamed hnamed) hkP hinit
  obtain ⟨vm₁, X₁, hstep₁⟩ := X.invokestatic hexec hown hlink hnamed hmethM hstatic hkP hinitP hy (g := g) hg (argsL := argsL) (rest := rest) (hlen _ hsigM) hstack hdg
  obtain ⟨v, B, X', hpost, hsteps⟩ := hK m meth c ⟨T.setVm vm₁, locs, cells, slots⟩ { g with stack := rest } (.invokestatic index) mk argsL.toArray X₁ hg hsize hdg hW (X₁.named hnamed) (hpre vm₁ X₁.warmed)
  exact ⟨v, vm₁, B, X₁.warmed, X', hpost, fun target h => hstep₁ _ fun acts => by rw [doInvoke_state]; exact hsteps.trans h⟩
theorem vx_runSW {y : MethodName} {bytes cc : ByteArray} {maxL nL mc ms n index : Nat} {ret : Option FieldType} {hh : List (Nat × Nat × Nat × Nat)} {ws : List Cond} {rm : Room} {Pc : Array Value → State → Prop} {Qc : Array Value → State → Outcome → State → Prop} {free : Addr → Prop} {Ts : List Cond} {own : String} {As rest : List Value} {g : JFrame}
    (S : CallFix p m c cc nL s args Ts own) (hM : Met l y ws rm Pc Qc mc ms free) (cw : vx_CSW R s args own index y bytes maxL ret hh ws rm mc ms n) (hp : PreS s H Pc As)
    (hg : g.method = m) (hn : As.length = n) (hsize : g.locals.size = nL) (hstack : g.stack = As.reverse ++ rest) (hW : 2 * g.monitorRoom + (rest.map fun v => v.category).sum ≤ 8) (hdg : decode cc g.pc = .ok (.invokestatic index, 3)) (hf : cells + mc ≤ R.cells ∧ slots + ms ≤ R.slots) :
    va_Run p l e R s m args below meth c H locs cells slots mc ms g rest (Qc As.toArray) (free) := by
  obtain ⟨⟨hrc, hrs, hfr, hlo, hws, hcw⟩, hcode, hini, hy, hlen, hl, hstt⟩ := cw
  have hK : Back l R p e below s args y 3 8 (PreOf R mc ms Pc) (PostOf Qc mc ms free) := va_backW (hh := hh) (bytes := bytes) (maxL := maxL) (ret := ret) hM hp.1 hrc hrs hfr hlo hws hcw (fun a' U hW => word_at hW (Or.inl (by first | rfl | simp [Cond.onTables, Cond.keeps, Cond.steady])) hini)
  obtain ⟨hx, hb, hml, ho, -⟩ := S
  intro T hT X
  obtain ⟨v, vm₁, ⟨U', l2, c2, s2⟩, hW₁, X', ⟨g', mk, t, L, e1, e2, hq, h1, hL, h2, h3⟩, st⟩ := vx_callSW X hx (hh := hh) (bytes := bytes) (maxL := maxL) (ret := ret) ho hl hstt hini hcode hy hK hg (hsize.trans hml.symm) (argsL := As) (rest := rest) (fun sig h => hn.trans (hlen sig h)) hstack hW (by rw [hb]; exact hdg)
    (fun vm₁ hW₁ => ⟨hf.1, hf.2, hp.2 (T.setVm vm₁) hT hW₁⟩)
  dsimp only [Pt.U, Pt.locs, Pt.cells, Pt.slots] at X' e1 e2 h1 h2 h3 st
  subst h1; subst h2; subst h3
  exact ⟨v, (T.setVm vm₁).calling g' mk As.toArray, t, U', L, hT, X', hL, e1, e2, hq, st⟩
/-- not caught here, past rows that name other classes: it goes on to the caller -/
theorem vx_outP {p : Program} {l : Launch} {e : Env} {R : Room} {s : State} {m : MethodId} {args : Array Value} {below : List Frame} {meth : Method} {c : Code} {H : Heap} {locs : List Loc} {cells slots : Nat} {free : Addr → Prop} {ls : Array Slot} {rest : List Value} {Qc : Array Value → State → Outcome → State → Prop} {XC : String → State → State → Prop}
    {pc : Nat} {own E : String} {ce : Cell} {q : Addr} {mc ms : Nat} (hown : s.vm.findClass own = some m.cls) (hlocks : meth.locks = false)
    (hpass : ∀ z ∈ c.exceptionTable.toList, covers z pc = false ∨ (z.catchType ≠ 0 ∧ ∃ nm : String, (Cond.classLink own z.catchType nm).before args s = true ∧ va_Nc E nm s)) (hcell : H[q]? = some ce) (hv : ce.vm = .none) (hcl : s.vm.findClass E = some ce.cls)
    (hx : ∀ t : State, t.heap = H → s.vm.Alike t.vm → XC E s t) (hf : ∀ z ∈ locs, free z.base) (hc : cells ≤ mc) (hs : slots ≤ ms) :
    vx_W p l e R s m args below meth c H locs cells slots (vx_MQ below Qc XC args s mc ms free) (F0 m pc ls rest) q := by
  sorry
/-- a thing of a world lies in the heap -/
theorem vx_lt {D : va_G} {cl : List vw_C} {ws : va_W} {H1 : Heap} (h : va_P D cl ws H1) {k : Nat} {q : Nat × va_E} (hk : ws[k]? = some q) : q.1 < H1.size := (h k q hk).lt
end VXS
/-! ===== END ===== -/
/-! ===== BEGIN methods with a table of their own: called by a name, returning or throwing ===== -/
section VXH
/-! vx_backW, vx_callVX, vx_callSX, vx_callVW, vx_runVW, vx_runVX, vx_runSX, vx_ofWH follow the same proofs as their sisters above (Free/Laws.lean, Shelf42/LK1.lean); vx_outP calls Shelf42/NT130.lean (outThrough). -/
section
variable {l : Launch} {R : Room} {p : Program} {e : Env} {below : List Frame} {s : State} {sargs : Array Value} {y : MethodName} {len W9 : Nat}
theorem vx_backW {ws : List Cond} {rm : Room} {Pc : Array Value → State → Prop} {Qc : Array Value → State → Outcome → State → Prop} {XC : String → State → State → Prop} {mc ms : Nat} {free : Addr → Prop} {bytes : ByteArray} {maxL : Nat} {ret : Option FieldType} {hh : List (Nat × Nat × Nat × Nat)}
    (hM : vx_Met l y ws rm Pc Qc XC mc ms free) (hblind : FrameBlind Pc) (hrc : rm.cells = mc) (hrs : rm.slots = ms)
    (hframes : rm.frames + 1 ≤ R.frames) (hlocals : W9 + (maxL + 11) + rm.locals ≤ R.locals)
    (hws : ∀ w ∈ ws, ∀ a' U, s.WarmedH U.vm → w.before a' U = true) (hcode : Cond.codeWith y bytes maxL ret hh ∈ ws) (hinit : ∀ a' U, s.WarmedH U.vm → (Cond.initialized y.cls).before a' U = true) :
    vx_Back l R p e below s sargs y len W9 (PreOf R mc ms Pc) (PostOf Qc mc ms free) (vx_Post XC mc ms free) := by
  intro m meth c A g ig mk a X hg hsize hdg hW hn hp
  have h1 : (headSpec ws rm).pre.before a A.U = true := atoms_intro fun w hw => hws w hw _ _ X.warmed
  have h2 : (Cond.codeWith y bytes maxL ret hh).before a A.U = true := hws _ hcode _ _ X.warmed
  have h3 : (Cond.initialized y.cls).before a A.U = true := hinit _ _ X.warmed
  have h4 : A.cells + (headSpec ws rm).room.cells ≤ R.cells := by rw [show (headSpec ws rm).room.cells = mc from hrc]; exact hp.1
  have h5 : A.slots + (headSpec ws rm).room.slots ≤ R.slots := by rw [show (headSpec ws rm).room.slots = ms from hrs]; exact hp.2.1
  have hPc : Pc a (A.U.calling g mk a) := hblind _ _ _ _ hp.2.2
  obtain ⟨U, Ls, c0, s0⟩ := A
  dsimp only [Pt.U, Pt.locs, Pt.cells, Pt.slots] at h1 h2 h3 h4 h5 X hn hPc ⊢
  obtain ⟨m9, methY, cY, hn9, hmY, hcY, -, hlY, -⟩ := Cond.codeWith_spec h2
  cases Option.some.inj (hn9.symm.trans hn)
  obtain ⟨kY, hkY, -⟩ := className_of_methodNamed hn
  have hinitY : kY.init = .initialized := Cond.initialized_spec (findClass_of_methodNamed hn) hkY h3
  have h : At U g.method c below := by rw [hg]; exact X.here
  have hlocals9 : W9 + (maxL + 11) + (headSpec ws rm).room.locals ≤ R.locals := hlocals
  have happ : (headSpec ws rm).appliesLoose y e.platform (U.calling g mk a) = true :=
    Spec.appliesLoose_calling (g := g) h hdg hn hkY hinitY
      (X.room_calling (g := g) (R' := (headSpec ws rm).room) hsize hmY hcY hframes (by rw [hlY]; omega) h4 h5) h1
  obtain ⟨mid, hmid⟩ := h.above
  have hfr : (U.setTop g).frames = (.java g :: mid) ++ below := by rw [State.frames_setTop' g h.top, hmid]; rfl
  obtain ⟨o, s₂, hsteps, -, hend, hq⟩ := Steps.callFree hM p X.admits X.cas X.clock (acts := []) hfr happ hPc trivial
  have hq' : vx_Q Qc XC mc ms free a (U.calling g mk a) o s₂ := hq
  rw [State.frames_setTop' g h.top] at hend
  obtain ⟨g₀, hg0⟩ := Option.isSome_iff_exists.mp h.top
  obtain ⟨r, hr⟩ := State.topJava?_eq_some.mp hg0
  have hr' : (({ U with heap := s₂.heap, slotsUsed := s₂.slotsUsed } : State).setVm s₂.vm).frames = .java g₀ :: r := hr
  rcases hq' with ⟨hqc, L, hfe, hL⟩ | ⟨q, rfl, E, ce, L, hx, hce, hcv, hcl, hW₂, hsm, hL⟩
  · obtain ⟨⟨v, rfl⟩, hW₂, e2, q2, q3, q4, q5, q6⟩ := id hfe
    have e3 : s₂ = ({ (U.calling g mk a).setFrames s₂.frames with heap := s₂.heap, slotsUsed := s₂.slotsUsed } : State).setVm s₂.vm := by
      have : s₂ = ({ s₂ with vm := (U.calling g mk a).vm } : State).setVm s₂.vm := rfl
      rw [e2] at this
      exact this
    obtain ⟨c₂, i₂, len₂, hc₂, hd₂, hf₂⟩ := hend
    have hW' : U.WarmedH s₂.vm := hW₂
    have hcc : c₂ = c := by
      have h1 : s₂.code? g.method = U.code? g.method := by
        rw [State.code?_eq, State.code?_eq, hW'.alike.method?]
      exact Option.some.inj (hc₂.symm.trans (h1.trans h.code))
    subst hcc
    have hlen : len₂ = len := by rw [hdg] at hd₂; cases hd₂; rfl
    subst hlen
    have hs₂ : s₂ = (({ U with heap := s₂.heap, slotsUsed := s₂.slotsUsed } : State).setVm s₂.vm).setTop { g with pc := g.pc + len₂, stack := v.toList ++ g.stack } := by
      refine e3.trans ?_
      rw [hf₂, State.calling_eq h.top, State.setFrames_setFrames, State.setTop_of_frames _ hr', hr]
      rfl
    have hsame : U.sameButNew ({ U with heap := s₂.heap, slotsUsed := s₂.slotsUsed } : State) L mc ms := by
      refine ⟨?_, q2, q3, q4, q5, q6⟩
      obtain ⟨t, ht, -⟩ := State.frames_cons hr
      show ({ U with heap := s₂.heap, slotsUsed := s₂.slotsUsed } : State) = { U.setFrames U.frames with heap := s₂.heap, slotsUsed := s₂.slotsUsed }
      rw [State.setFrames_self ht]
    subst hg
    refine Or.inl ⟨v, ⟨(({ U with heap := s₂.heap, slotsUsed := s₂.slotsUsed } : State).setVm s₂.vm), Ls ++ L, c0 + mc, s0 + ms⟩,
      ⟨X.admits, X.cas, X.clock, X.frames, X.room, X.hears, X.method, X.code, (X.here.setHeapUsed s₂.heap s₂.slotsUsed).setVm hW'.alike, X.tail, State.WarmedH.trans X.warmed hW', X.limits, X.bytes, X.same.trans (hsame.setVm s.vm)⟩,
      ⟨g, mk, s₂, L, rfl, rfl, hqc, rfl, hL, rfl, rfl⟩, ?_⟩
    show Steps p.tables e below _ ((({ U with heap := s₂.heap, slotsUsed := s₂.slotsUsed } : State).setVm s₂.vm).setTop { g with pc := g.pc + len₂, stack := v.toList ++ g.stack })
    rw [← hs₂]
    exact hsteps
  · obtain ⟨e2, q2, q3, q4, q5, q6⟩ := id hsm
    have e3 : s₂ = ({ (U.calling g mk a).setFrames s₂.frames with heap := s₂.heap, slotsUsed := s₂.slotsUsed } : State).setVm s₂.vm := by
      have : s₂ = ({ s₂ with vm := (U.calling g mk a).vm } : State).setVm s₂.vm := rfl
      rw [e2] at this
      exact this
    have hf₂ : s₂.frames = .throwing q :: .java g :: U.frames.tail := hend
    have hW' : U.WarmedH s₂.vm := hW₂
    have hs₂ : s₂ = ((({ U with heap := s₂.heap, slotsUsed := s₂.slotsUsed } : State).setVm s₂.vm).setTop g).pushFrame (.throwing q) := by
      refine e3.trans ?_
      rw [hf₂, State.calling_eq h.top, State.setFrames_setFrames, State.pushFrame, State.frames_setTop _ hr', State.setTop_of_frames _ hr', State.setFrames_setFrames, hr]
      rfl
    have hsame : U.sameButNew ({ U with heap := s₂.heap, slotsUsed := s₂.slotsUsed } : State) L mc ms := by
      refine ⟨?_, q2, q3, q4, q5, q6⟩
      obtain ⟨t, ht, -⟩ := State.frames_cons hr
      show ({ U with heap := s₂.heap, slotsUsed := s₂.slotsUsed } : State) = { U.setFrames U.frames with heap := s₂.heap, slotsUsed := s₂.slotsUsed }
      rw [State.setFrames_self ht]
    subst hg
    refine Or.inr ⟨q, ⟨(({ U with heap := s₂.heap, slotsUsed := s₂.slotsUsed } : State).setVm s₂.vm), Ls ++ L, c0 + mc, s0 + ms⟩,
      ⟨X.admits, X.cas, X.clock, X.frames, X.room, X.hears, X.method, X.code, (X.here.setHeapUsed s₂.heap s₂.slotsUsed).setVm hW'.alike, X.tail, State.WarmedH.trans X.warmed hW', X.limits, X.bytes, X.same.trans (hsame.setVm s.vm)⟩,
      ⟨g, mk, s₂, L, E, ce, rfl, rfl, hx, hce, hcv, hcl, rfl, hL, rfl, rfl⟩, ?_⟩
    show Steps p.tables e below _ (((({ U with heap := s₂.heap, slotsUsed := s₂.slotsUsed } : State).setVm s₂.vm).setTop g).pushFrame (.throwing q))
    rw [← hs₂]
    exact hsteps
end
variable {p : Program} {l : Launch} {e : Env} {R : Room} {s : State} {m : MethodId} {args : Array Value} {below : List Frame} {meth : Method} {c : Code} {T : State} {H : Heap} {locs : List Loc} {cells slots : Nat}
theorem vx_callVX (X : Stand p l e R s m args below meth c T locs cells slots) (hexec : p.tables.exec = Jvm.exec) {own C : String} {index : Nat} {y : MethodName} {bytes : ByteArray} {maxL : Nat} {ret : Option FieldType} {hh : List (Nat × Nat × Nat × Nat)}
    (hown : s.vm.findClass own = some m.cls) (hlink : (Cond.methodLink own index y).before args s = true) (hinst : (Cond.instanceMethod y).before args s = true) (hsel : (Cond.selects C y y).before args s = true)
    (hcode : (Cond.codeWith y bytes maxL ret hh).before args s = true) (hy : y.cls ≠ "java/lang/invoke/MethodHandle" ∧ y.cls ≠ "java/lang/invoke/VarHandle")
    {W9 : Nat} {Pre : Pt → Array Value → Prop} {Post : Pt → Array Value → Option Value → Pt → Prop} {PostX : Pt → Array Value → Addr → Pt → Prop} (hK : vx_Back l R p e below s args y 3 W9 Pre Post PostX)
    {b : Addr} {cellB : Cell} (hcell : T.heap[b]? = some cellB) (hobj : cellB.vm.isStatics = false) (hcls : s.vm.findClass C = some cellB.cls)
    {g : JFrame} (hg : g.method = m) (hsize : g.locals.size = c.maxLocals) {argsL rest : List Value} (hlen : ∀ sig, parseMethodDescriptor y.desc = some sig → argsL.length = sig.parameters.length)
    (hstack : g.stack = argsL.reverse ++ .ref b :: rest) (hW : 2 * g.monitorRoom + (rest.map fun v => v.category).sum ≤ W9) (hdg : decode c.code g.pc = .ok (.invokevirtual index, 3))
    (hpre : ∀ vm₁, s.WarmedH vm₁ → Pre ⟨T.setVm vm₁, locs, cells, slots⟩ (Value.ref b :: argsL).toArray) :
    (∃ (v : Option Value) (vm₁ : Vm) (B : Pt), s.WarmedH vm₁ ∧ Stand p l e R s m args below meth c B.U B.locs B.cells B.slots ∧ Post ⟨T.setVm vm₁, locs, cells, slots⟩ (Value.ref b :: argsL).toArray v B ∧
      ∀ target, Steps p.tables e below (B.U.setTop { g with pc := g.pc + 3, stack := v.toList ++ rest }) target → Steps p.tables e below (T.setTop g) target) ∨
    (∃ (q : Addr) (vm₁ : Vm) (B : Pt), s.WarmedH vm₁ ∧ Stand p l e R s m args below meth c B.U B.locs B.cells B.slots ∧ PostX ⟨T.setVm vm₁, locs, cells, slots⟩ (Value.ref b :: argsL).toArray q B ∧
      Steps p.tables e below (T.setTop g) ((B.U.setTop { g with stack := rest }).pushFrame (.throwing q))) := by
  obtain ⟨mk, methM, hnamed, hmethM, hstM, habM⟩ := Cond.instanceMethod_spec hinst
  obtain ⟨m8, methM', cM, hn8, hmethM', -, -, -, -, -, -, hsigM⟩ := Cond.codeWith_spec hcode
  cases Option.some.inj (hn8.symm.trans hnamed)
  cases hmethM.symm.trans hmethM'
  obtain ⟨c2, r2, m2, q1, q2, q3, q4, kP, hkP, hkPi⟩ := Cond.selects_spec hsel
  cases hcls.symm.trans q1
  cases (State.methodFound?_of_named hnamed hy).symm.trans q2
  cases hnamed.symm.trans q3
  have hselP : selectMethod e.platform s.vm cellB.cls mk = .method mk := by rw [Launch.admits_selectMethod X.admits]; exact q4
  obtain ⟨vm₁, X₁, hstep₁⟩ := X.invokevirtual hexec hown hlink hnamed hmethM hstM hkP hkPi hy (a := b) (cell := cellB) hcell
    (fun z h => by rw [h] at hobj; cases hobj) hselP hmethM habM hkP hkPi (g := g) hg (argsL := argsL) (rest := rest) (hlen _ hsigM) hstack hdg
  rcases hK m meth c ⟨T.setVm vm₁, locs, cells, slots⟩ { g with stack := rest } (.invokevirtual index) mk (Value.ref b :: argsL).toArray X₁ hg hsize hdg hW (X₁.named hnamed) (hpre vm₁ X₁.warmed) with ⟨v, B, X', hpost, hsteps⟩ | ⟨q, B, X', hpost, hsteps⟩
  · exact Or.inl ⟨v, vm₁, B, X₁.warmed, X', hpost, fun target h => hstep₁ _ fun acts => by rw [doInvoke_state]; exact hsteps.trans h⟩
  · exact Or.inr ⟨q, vm₁, B, X₁.warmed, X', hpost, hstep₁ _ fun acts => by rw [doInvoke_state]; exact hsteps⟩
theorem vx_callSX (X : Stand p l e R s m args below meth c T locs cells slots) (hexec : p.tables.exec = Jvm.exec) {own : String} {index : Nat} {y : MethodName} {bytes : ByteArray} {maxL : Nat} {ret : Option FieldType} {hh : List (Nat × Nat × Nat × Nat)}
    (hown : s.vm.findClass own = some m.cls) (hlink : (Cond.methodLink own index y).before args s = true) (hstat : (Cond.static y).before args s = true) (hinit : (Cond.initialized y.cls).before args s = true)
    (hcode : (Cond.codeWith y bytes maxL ret hh).before args s = true) (hy : y.cls ≠ "java/lang/invoke/MethodHandle" ∧ y.cls ≠ "java/lang/invoke/VarHandle")
    {W9 : Nat} {Pre : Pt → Array Value → Prop} {Post : Pt → Array Value → Option Value → Pt → Prop} {PostX : Pt → Array Value → Addr → Pt → Prop} (hK : vx_Back l R p e below s args y 3 W9 Pre Post PostX)
    {g : JFrame} (hg : g.method = m) (hsize : g.locals.size = c.maxLocals) {argsL rest : List Value} (hlen : ∀ sig, parseMethodDescriptor y.desc = some sig → argsL.length = sig.parameters.length)
    (hstack : g.stack = argsL.reverse ++ rest) (hW : 2 * g.monitorRoom + (rest.map fun v => v.category).sum ≤ W9) (hdg : decode c.code g.pc = .ok (.invokestatic index, 3))
    (hpre : ∀ vm₁, s.WarmedH vm₁ → Pre ⟨T.setVm vm₁, locs, cells, slots⟩ argsL.toArray) :
    (∃ (v : Option Value) (vm₁ : Vm) (B : Pt), s.WarmedH vm₁ ∧ Stand p l e R s m args below meth c B.U B.locs B.cells B.slots ∧ Post ⟨T.setVm vm₁, locs, cells, slots⟩ argsL.toArray v B ∧
      ∀ target, Steps p.tables e below (B.U.setTop { g with pc := g.pc + 3, stack := v.toList ++ rest }) target → Steps p.tables e below (T.setTop g) target) ∨
    (∃ (q : Addr) (vm₁ : Vm) (B : Pt), s.WarmedH vm₁ ∧ Stand p l e R s m args below meth c B.U B.locs B.cells B.slots ∧ PostX ⟨T.setVm vm₁, locs, cells, slots⟩ argsL.toArray q B ∧
      Steps p.tables e below (T.setTop g) ((B.U.setTop { g with stack := rest }).pushFrame (.throwing q))) := by
  obtain ⟨mk, methM, cM, hnamed, hmethM, -, -, -, -, -, -, hsigM⟩ := Cond.codeWith_spec hcode
  have hstatic : methM.isStatic = true := Cond.static_spec hnamed hmethM hstat
  obtain ⟨kP, hkP, -⟩ := className_of_methodNamed hnamed
  have hinitP : kP.init = .initialized := Cond.initialized_spec (findClass_of_methodNamed hnamed) hkP hinit
  obtain ⟨vm₁, X₁, hstep₁⟩ := X.invokestatic hexec hown hlink hnamed hmethM hstatic hkP hinitP hy (g := g) hg (argsL := argsL) (rest := rest) (hlen _ hsigM) hstack hdg
  rcases hK m meth c ⟨T.setVm vm₁, locs, cells, slots⟩ { g with stack := rest } (.invokestatic index) mk argsL.toArray X₁ hg hsize hdg hW (X₁.named hnamed) (hpre vm₁ X₁.warmed) with ⟨v, B, X', hpost, hsteps⟩ | ⟨q, B, X', hpost, hsteps⟩
  · exact Or.inl ⟨v, vm₁, B, X₁.warmed, X', hpost, fun target h => hstep₁ _ fun acts => by rw [doInvoke_state]; exact hsteps.trans h⟩
  · exact Or.inr ⟨q, vm₁, B, X₁.warmed, X', hpost, hstep₁ _ fun acts => by rw [doInvoke_state]; exact hsteps⟩
theorem vx_callVW (X : Stand p l e R s m args below meth c T locs cells slots) (hexec : p.tables.exec = Jvm.exec) {own C : String} {index : Nat} {y : MethodName} {bytes : ByteArray} {maxL : Nat} {ret : Option FieldType} {hh : List (Nat × Nat × Nat × Nat)}
    (hown : s.vm.findClass own = some m.cls) (hlink : (Cond.methodLink own index y).before args s = true) (hinst : (Cond.instanceMethod y).before args s = true) (hsel : (Cond.selects C y y).before args s = true)
    (hcode : (Cond.codeWith y bytes maxL ret hh).before args s = true) (hy : y.cls ≠ "java/lang/invoke/MethodHandle" ∧ y.cls ≠ "java/lang/invoke/VarHandle")
    {W9 : Nat} {Pre : Pt → Array Value → Prop} {Post : Pt → Array Value → Option Value → Pt → Prop} (hK : Back l R p e below s args y 3 W9 Pre Post)
    {b : Addr} {cellB : Cell} (hcell : T.heap[b]? = some cellB) (hobj : cellB.vm.isStatics = false) (hcls : s.vm.findClass C = some cellB.cls)
    {g : JFrame} (hg : g.method = m) (hsize : g.locals.size = c.maxLocals) {argsL rest : List Value} (hlen : ∀ sig, parseMethodDescriptor y.desc = some sig → argsL.length = sig.parameters.length)
    (hstack : g.stack = argsL.reverse ++ .ref b :: rest) (hW : 2 * g.monitorRoom + (rest.map fun v => v.category).sum ≤ W9) (hdg : decode c.code g.pc = .ok (.invokevirtual index, 3))
    (hpre : ∀ vm₁, s.WarmedH vm₁ → Pre ⟨T.setVm vm₁, locs, cells, slots⟩ (Value.ref b :: argsL).toArray) :
    ∃ (v : Option Value) (vm₁ : Vm) (B : Pt), s.WarmedH vm₁ ∧ Stand p l e R s m args below meth c B.U B.locs B.cells B.slots ∧ Post ⟨T.setVm vm₁, locs, cells, slots⟩ (Value.ref b :: argsL).toArray v B ∧
      ∀ target, Steps p.tables e below (B.U.setTop { g with pc := g.pc + 3, stack := v.toList ++ rest }) target → Steps p.tables e below (T.setTop g) target := by
  obtain ⟨mk, methM, hnamed, hmethM, hstM, habM⟩ := Cond.instanceMethod_spec hinst
  obtain ⟨m8, methM', cM, hn8, hmethM', -, -, -, -, -, -, hsigM⟩ := Cond.codeWith_spec hcode
  cases Option.some.inj (hn8.symm.trans hnamed)
  cases hmethM.symm.trans hmethM'
  obtain ⟨c2, r2, m2, q1, q2, q3, q4, kP, hkP, hkPi⟩ := Cond.selects_spec hsel
  cases hcls.symm.trans q1
  cases (State.methodFound?_of_named hnamed hy).symm.trans q2
  cases hnamed.symm.trans q3
  have hselP : selectMethod e.platform s.vm cellB.cls mk = .method mk := by rw [Launch.admits_selectMethod X.admits]; exact q4
  obtain ⟨vm₁, X₁, hstep₁⟩ := X.invokevirtual hexec hown hlink hnamed hmethM hstM hkP hkPi hy (a := b) (cell := cellB) hcell
    (fun z h => by rw [h] at hobj; cases hobj) hselP hmethM habM hkP hkPi (g := g) hg (argsL := argsL) (rest := rest) (hlen _ hsigM) hstack hdg
  obtain ⟨v, B, X', hpost, hsteps⟩ := hK m meth c ⟨T.setVm vm₁, locs, cells, slots⟩ { g with stack := rest } (.invokevirtual index) mk (Value.ref b :: argsL).toArray X₁ hg hsize hdg hW (X₁.named hnamed) (hpre vm₁ X₁.warmed)
  exact ⟨v, vm₁, B, X₁.warmed, X', hpost, fun target h => hstep₁ _ fun acts => by rw [doInvoke_state]; exact hsteps.trans h⟩
abbrev vx_CVW (R : Room) (s : State) (args : Array Value) (own C : String) (index : Nat) (y : MethodName) (bytes : ByteArray) (maxL : Nat) (ret : Option FieldType) (hh : List (Nat × Nat × Nat × Nat)) (ws : List Cond) (rm : Room) (mc ms n : Nat) : Prop :=
  (rm.cells = mc ∧ rm.slots = ms ∧ rm.frames + 1 ≤ R.frames ∧ 8 + (maxL + 11) + rm.locals ≤ R.locals ∧ (∀ w ∈ ws, ∀ (a' : Array Value) (U : State), s.WarmedH U.vm → w.before a' U = true) ∧ Cond.codeWith y bytes maxL ret hh ∈ ws) ∧
  (Cond.codeWith y bytes maxL ret hh).before args s = true ∧ (Cond.initialized y.cls).before args s = true ∧ (y.cls ≠ "java/lang/invoke/MethodHandle" ∧ y.cls ≠ "java/lang/invoke/VarHandle") ∧
  (∀ sig, parseMethodDescriptor y.desc = some sig → n = sig.parameters.length) ∧ (Cond.methodLink own index y).before args s = true ∧ (Cond.instanceMethod y).before args s = true ∧ (Cond.selects C y y).before args s = true
theorem vx_cwVW {own C : String} {index maxL mc ms : Nat} {y : MethodName} {bytes : ByteArray} {ret : Option FieldType} {hh : List (Nat × Nat × Nat × Nat)} {Ts ws ws' : List Cond} {rm : Room} (n : Nat) (ht : ∀ w ∈ Ts, w.before args s = true) (hT : GoodIn Ts (wsV own index C y ws)) (hw : ws = Cond.codeWith y bytes maxL ret hh :: ws') (hrc : rm.cells = mc) (hrs : rm.slots = ms)
    (hd : y.cls = C ∧ y.cls ≠ "java/lang/invoke/MethodHandle" ∧ y.cls ≠ "java/lang/invoke/VarHandle" ∧ (parseMethodDescriptor y.desc).map (fun d => d.parameters.length) = some n) (hR : rm.frames + 1 ≤ R.frames ∧ 8 + (maxL + 11) + rm.locals ≤ R.locals) :
    vx_CVW R s args own C index y bytes maxL ret hh ws rm mc ms n := by
  obtain ⟨hC, hd⟩ := hd
  subst hC
  have ok : ∀ w ∈ wsV own index y.cls y ws, w.before args s = true := fun w h => ht w (hT w h).1
  have hG : GoodIn Ts ws := fun w h => hT w (by unfold wsV; exact List.mem_append_right _ h)
  have hc : Cond.codeWith y bytes maxL ret hh ∈ ws := by rw [hw]; exact List.mem_cons_self
  refine ⟨⟨hrc, hrs, hR.1, hR.2, pay_in ht hG, hc⟩, ht _ (hG _ hc).1, ok _ (by simp [wsV]), ⟨hd.1, hd.2.1⟩, fun sig h => ?_, ok _ (by simp [wsV]), ok _ (by simp [wsV]), ok _ (by simp [wsV])⟩
  have h2 := hd.2.2
  rw [h] at h2
  exact (Option.some.inj h2).symm
theorem vx_runVW {y : MethodName} {bytes cc : ByteArray} {maxL nL mc ms n index : Nat} {ret : Option FieldType} {hh : List (Nat × Nat × Nat × Nat)} {ws : List Cond} {rm : Room} {Pc : Array Value → State → Prop} {Qc : Array Value → State → Outcome → State → Prop} {free : Addr → Prop} {Ts : List Cond} {own C : String} {b : Addr} {As rest : List Value} {g : JFrame}
    (S : CallFix p m c cc nL s args Ts own) (hM : Met l y ws rm Pc Qc mc ms free) (cw : vx_CVW R s args own C index y bytes maxL ret hh ws rm mc ms n) (hp : PreV s H C b Pc As)
    (hg : g.method = m) (hn : As.length = n) (hsize : g.locals.size = nL) (hstack : g.stack = As.reverse ++ .ref b :: rest) (hW : 2 * g.monitorRoom + (rest.map fun v => v.category).sum ≤ 8) (hdg : decode cc g.pc = .ok (.invokevirtual index, 3)) (hf : cells + mc ≤ R.cells ∧ slots + ms ≤ R.slots) :
    va_Run p l e R s m args below meth c H locs cells slots mc ms g rest (Qc (Value.ref b :: As).toArray) free := by
  obtain ⟨⟨hrc, hrs, hfr, hlo, hws, hcw⟩, hcode, hini, hy, hlen, hl, hin, hse⟩ := cw
  have hK : Back l R p e below s args y 3 8 (PreOf R mc ms Pc) (PostOf Qc mc ms free) := va_backW (hh := hh) (bytes := bytes) (maxL := maxL) (ret := ret) hM hp.1 hrc hrs hfr hlo hws hcw (fun a' U hW => word_at hW (Or.inl (by first | rfl | simp [Cond.onTables, Cond.keeps, Cond.steady])) hini)
  obtain ⟨hx, hb, hml, ho, -⟩ := S
  obtain ⟨-, ⟨cellB, hcB, hoB, hclB⟩, hPc⟩ := hp
  intro T hT X
  obtain ⟨v, vm₁, ⟨U', l2, c2, s2⟩, hW₁, X', ⟨g', mk, t, L, e1, e2, hq, h1, hL, h2, h3⟩, st⟩ := vx_callVW X hx (C := C) (hh := hh) (bytes := bytes) (maxL := maxL) (ret := ret) ho hl hin hse hcode hy hK (by rw [hT]; exact hcB) hoB hclB hg (hsize.trans hml.symm) (argsL := As) (rest := rest) (fun sig h => hn.trans (hlen sig h)) hstack hW (by rw [hb]; exact hdg)
    (fun vm₁ hW₁ => ⟨hf.1, hf.2, hPc (T.setVm vm₁) hT hW₁⟩)
  dsimp only [Pt.U, Pt.locs, Pt.cells, Pt.slots] at X' e1 e2 h1 h2 h3 st
  subst h1; subst h2; subst h3
  exact ⟨v, (T.setVm vm₁).calling g' mk (Value.ref b :: As).toArray, t, U', L, hT, X', hL, e1, e2, hq, st⟩
section
variable {y : MethodName} {bytes cc : ByteArray} {maxL nL mc ms n index : Nat} {ret : Option FieldType} {ws : List Cond} {rm : Room} {Pc : Array Value → State → Prop} {Qc : Array Value → State → Outcome → State → Prop} {XC : String → State → State → Prop} {free : Addr → Prop} {Ts : List Cond} {own C : String} {b : Addr} {As rest : List Value} {g : JFrame}
theorem vx_runVX {hh : List (Nat × Nat × Nat × Nat)} (S : CallFix p m c cc nL s args Ts own) (hM : vx_Met l y ws rm Pc Qc XC mc ms free) (cw : vx_CVW R s args own C index y bytes maxL ret hh ws rm mc ms n) (hp : PreV s H C b Pc As)
    (hg : g.method = m) (hn : As.length = n) (hsize : g.locals.size = nL) (hstack : g.stack = As.reverse ++ .ref b :: rest) (hW : 2 * g.monitorRoom + (rest.map fun v => v.category).sum ≤ 8) (hdg : decode cc g.pc = .ok (.invokevirtual index, 3)) (hf : cells + mc ≤ R.cells ∧ slots + ms ≤ R.slots) :
    vx_Run p l e R s m args below meth c H locs cells slots mc ms g rest (Qc (Value.ref b :: As).toArray) XC free := by
  obtain ⟨⟨hrc, hrs, hfr, hlo, hws, hcw⟩, hcode, hini, hy, hlen, hl, hin, hse⟩ := cw
  have hK : vx_Back l R p e below s args y 3 8 (PreOf R mc ms Pc) (PostOf Qc mc ms free) (vx_Post XC mc ms free) := vx_backW (hh := hh) (bytes := bytes) (maxL := maxL) (ret := ret) hM hp.1 hrc hrs hfr hlo hws hcw (fun a' U hW => word_at hW (Or.inl (by first | rfl | simp [Cond.onTables, Cond.keeps, Cond.steady])) hini)
  obtain ⟨hx, hb, hml, ho, -⟩ := S
  obtain ⟨-, ⟨cellB, hcB, hoB, hclB⟩, hPc⟩ := hp
  intro T hT X
  rcases vx_callVX X hx (C := C) (hh := hh) (bytes := bytes) (maxL := maxL) (ret := ret) ho hl hin hse hcode hy hK (by rw [hT]; exact hcB) hoB hclB hg (hsize.trans hml.symm) (argsL := As) (rest := rest) (fun sig h => hn.trans (hlen sig h)) hstack hW (by rw [hb]; exact hdg)
    (fun vm₁ hW₁ => ⟨hf.1, hf.2, hPc (T.setVm vm₁) hT hW₁⟩) with ⟨v, vm₁, ⟨U', l2, c2, s2⟩, hW₁, X', ⟨g', mk, t, L, e1, e2, hq, h1, hL, h2, h3⟩, st⟩ | ⟨q, vm₁, ⟨U', l2, c2, s2⟩, hW₁, X', ⟨g', mk, t, L, E, ce, e1, e2, hq, hce, hcv, hcl, h1, hL, h2, h3⟩, st⟩
  · dsimp only [Pt.U, Pt.locs, Pt.cells, Pt.slots] at X' e1 e2 h1 h2 h3 st
    subst h1; subst h2; subst h3
    exact Or.inl ⟨v, (T.setVm vm₁).calling g' mk (Value.ref b :: As).toArray, t, U', L, hT, X', hL, e1, e2, hq, st⟩
  · dsimp only [Pt.U, Pt.locs, Pt.cells, Pt.slots] at X' e1 e2 h1 h2 h3 st hcl
    subst h1; subst h2; subst h3
    exact Or.inr ⟨q, (T.setVm vm₁).calling g' mk (Value.ref b :: As).toArray, t, U', L, E, ce, hT, X', hL, e1, e2, hq, hce, hcv, vx_cls hW₁ hcl, st⟩
theorem vx_runSX {hh : List (Nat × Nat × Nat × Nat)} (S : CallFix p m c cc nL s args Ts own) (hM : vx_Met l y ws rm Pc Qc XC mc ms free) (cw : vx_CSW R s args own index y bytes maxL ret hh ws rm mc ms n) (hp : PreS s H Pc As)
    (hg : g.method = m) (hn : As.length = n) (hsize : g.locals.size = nL) (hstack : g.stack = As.reverse ++ rest) (hW : 2 * g.monitorRoom + (rest.map fun v => v.category).sum ≤ 8) (hdg : decode cc g.pc = .ok (.invokestatic index, 3)) (hf : cells + mc ≤ R.cells ∧ slots + ms ≤ R.slots) :
    vx_Run p l e R s m args below meth c H locs cells slots mc ms g rest (Qc As.toArray) XC free := by
  obtain ⟨⟨hrc, hrs, hfr, hlo, hws, hcw⟩, hcode, hini, hy, hlen, hl, hstt⟩ := cw
  have hK : vx_Back l R p e below s args y 3 8 (PreOf R mc ms Pc) (PostOf Qc mc ms free) (vx_Post XC mc ms free) := vx_backW (hh := hh) (bytes := bytes) (maxL := maxL) (ret := ret) hM hp.1 hrc hrs hfr hlo hws hcw (fun a' U hW => word_at hW (Or.inl (by first | rfl | simp [Cond.onTables, Cond.keeps, Cond.steady])) hini)
  obtain ⟨hx, hb, hml, ho, -⟩ := S
  intro T hT X
  rcases vx_callSX X hx (hh := hh) (bytes := bytes) (maxL := maxL) (ret := ret) ho hl hstt hini hcode hy hK hg (hsize.trans hml.symm) (argsL := As) (rest := rest) (fun sig h => hn.trans (hlen sig h)) hstack hW (by rw [hb]; exact hdg)
    (fun vm₁ hW₁ => ⟨hf.1, hf.2, hp.2 (T.setVm vm₁) hT hW₁⟩) with ⟨v, vm₁, ⟨U', l2, c2, s2⟩, hW₁, X', ⟨g', mk, t, L, e1, e2, hq, h1, hL, h2, h3⟩, st⟩ | ⟨q, vm₁, ⟨U', l2, c2, s2⟩, hW₁, X', ⟨g', mk, t, L, E, ce, e1, e2, hq, hce, hcv, hcl, h1, hL, h2, h3⟩, st⟩
  · dsimp only [Pt.U, Pt.locs, Pt.cells, Pt.slots] at X' e1 e2 h1 h2 h3 st
    subst h1; subst h2; subst h3
    exact Or.inl ⟨v, (T.setVm vm₁).calling g' mk As.toArray, t, U', L, hT, X', hL, e1, e2, hq, st⟩
  · dsimp only [Pt.U, Pt.locs, Pt.cells, Pt.slots] at X' e1 e2 h1 h2 h3 st hcl
    subst h1; subst h2; subst h3
    exact Or.inr ⟨q, (T.setVm vm₁).calling g' mk As.toArray, t, U', L, E, ce, hT, X', hL, e1, e2, hq, hce, hcv, vx_cls hW₁ hcl, st⟩
end
end VXH
theorem vx_ofWH {l : Launch} {y : MethodName} {ws ws' : List Cond} {rm : Room} {Pc : Array Value → State → Prop} {Qc : Array Value → State → Outcome → State → Prop} {XC : String → State → State → Prop} {mc ms : Nat} {free : Addr → Prop} {cc : ByteArray} {maxL : Nat} {ret : Option FieldType} {hh : List (Nat × Nat × Nat × Nat)}
    (hy : plainName y.cls = true) (hw : ws = Cond.codeWith y cc maxL ret hh :: ws')
    (body : ∀ p e s m args below meth c s₁, BodyLoose p l y (headSpec ws rm) cc maxL ret e s m args below meth c s₁ → c.maxLocals = maxL → Pc args s →
      W p l e (headSpec ws rm).room s m args below meth c s.heap [] 0 0 (vx_MQ below Qc XC args s mc ms free) (entryFrame m args maxL)) : vx_Met l y ws rm Pc Qc XC mc ms free := by
  refine MetFree.of_bodyS (code := cc) (maxLocals := maxL) (ret := ret) hy ?_ ?_
  · intro args s m h hn
    obtain ⟨m9, meth, c, hn9, h1, h2, h3, h4, -, h5, h6, -⟩ := Cond.codeWith_spec (atoms_spec (ws := ws) h _ (by rw [hw]; exact List.mem_cons_self))
    cases hn.symm.trans hn9
    exact ⟨meth, c, h1, h2, h3, h4, h5, h6⟩
  · intro p e s m args below meth c s₁ B hml hP _
    have hh0 : s₁.heap = s.heap := by rw [B.state]; rfl
    obtain ⟨t, a1, o, b1, b2, b3⟩ := body p e s m args below meth c s₁ B hml hP s₁ hh0 (Stand.of_body B)
    exact ⟨t, o, a1, b1, b2, b3⟩
/-! ===== END ===== -/
end
section
def RX0 : String := "PencilWorks$Blame"
def TX0 : u_T := fun k => match k with
  | 0 => ("PencilWorks$Blame", "fewest", "I", false)
  | 1 => ("PencilWorks$Blame", "ways", "I", false)
  | 2 => ("PencilWorks$Blame", "sure", "I", false)
  | 3 => ("PencilWorks$Blame", "suspects", "[I", true)
  | _ => ("PencilWorks$Blame", "broken", "I", false)
def tyX0 : Nat → FieldType := fun k => match k with
  | 0 => .int
  | 1 => .int
  | 2 => .int
  | 3 => .array .int
  | _ => .int
abbrev wsX00 : List Cond := u_ws RX0 TX0 5
theorem nmX0 : ∀ a, a < 5 → ∀ b, b < 5 → a ≠ b → (TX0 a).2.1 ≠ (TX0 b).2.1 := by decide +kernel
theorem tyX0_ok : ∀ k, k < 5 → parseFieldDescriptor (TX0 k).2.2.1 = some (tyX0 k) := by decide +kernel
abbrev cX0_init : ByteArray := prog_2_method_1_code
def yX0_init : MethodName := ⟨RX0, "<init>", "()V"⟩
abbrev cX0_seek : ByteArray := prog_2_method_2_code
def yX0_seek : MethodName := ⟨RX0, "seek", "(LPencilWorks$Lots;JJ)V"⟩
abbrev cX0_setSuspects : ByteArray := prog_2_method_3_code
def yX0_setSuspects : MethodName := ⟨RX0, "setSuspects", "(LPencilWorks$Lots;JI)V"⟩
abbrev cX0_blameMore : ByteArray := prog_2_method_4_code
def yX0_blameMore : MethodName := ⟨RX0, "blameMore", "(III)V"⟩
abbrev cX0_blameEach : ByteArray := prog_2_method_5_code
def yX0_blameEach : MethodName := ⟨RX0, "blameEach", "(IIII)V"⟩
abbrev cX0_firstUnexplained : ByteArray := prog_2_method_6_code
def yX0_firstUnexplained : MethodName := ⟨RX0, "firstUnexplained", "(I)I"⟩
abbrev cX0_keep : ByteArray := prog_2_method_7_code
def yX0_keep : MethodName := ⟨RX0, "keep", "(II)V"⟩
def RX1 : String := "PencilWorks$Earths"
def TX1 : u_T := fun k => match k with
  | 0 => ("PencilWorks$Earths", "low", "[I", true)
  | 1 => ("PencilWorks$Earths", "high", "[I", true)
  | 2 => ("PencilWorks$Earths", "price", "[I", true)
  | 3 => ("PencilWorks$Earths", "has", "[I", true)
  | 4 => ("PencilWorks$Earths", "number", "I", false)
  | 5 => ("PencilWorks$Earths", "best", "[I", true)
  | 6 => ("PencilWorks$Earths", "bestPrice", "I", false)
  | 7 => ("PencilWorks$Earths", "bestLow", "I", false)
  | 8 => ("PencilWorks$Earths", "bestHigh", "I", false)
  | 9 => ("PencilWorks$Earths", "chosen", "[I", true)
  | 10 => ("PencilWorks$Earths", "leastLows", "I", false)
  | 11 => ("PencilWorks$Earths", "mostHighs", "I", false)
  | 12 => ("PencilWorks$Earths", "partsFrom", "[I", true)
  | 13 => ("PencilWorks$Earths", "leastPriceFrom", "[I", true)
  | 14 => ("PencilWorks$Earths", "mostLowFrom", "[I", true)
  | _ => ("PencilWorks$Earths", "leastHighFrom", "[I", true)
def tyX1 : Nat → FieldType := fun k => match k with
  | 0 => .array .int
  | 1 => .array .int
  | 2 => .array .int
  | 3 => .array .int
  | 4 => .int
  | 5 => .array .int
  | 6 => .int
  | 7 => .int
  | 8 => .int
  | 9 => .array .int
  | 10 => .int
  | 11 => .int
  | 12 => .array .int
  | 13 => .array .int
  | 14 => .array .int
  | _ => .array .int
abbrev wsX10 : List Cond := u_ws RX1 TX1 16
theorem nmX1 : ∀ a, a < 16 → ∀ b, b < 16 → a ≠ b → (TX1 a).2.1 ≠ (TX1 b).2.1 := by decide +kernel
theorem tyX1_ok : ∀ k, k < 16 → parseFieldDescriptor (TX1 k).2.2.1 = some (tyX1 k) := by decide +kernel
abbrev cX1_init : ByteArray := prog_3_method_1_code
def yX1_init : MethodName := ⟨RX1, "<init>", "()V"⟩
abbrev cX1_add : ByteArray := prog_3_method_2_code
def yX1_add : MethodName := ⟨RX1, "add", "(IIII)I"⟩
abbrev cX1_seek : ByteArray := prog_3_method_3_code
def yX1_seek : MethodName := ⟨RX1, "seek", "(II)V"⟩
abbrev cX1_takeBest : ByteArray := prog_3_method_4_code
def yX1_takeBest : MethodName := ⟨RX1, "takeBest", "()V"⟩
abbrev cX1_setBounds : ByteArray := prog_3_method_5_code
def yX1_setBounds : MethodName := ⟨RX1, "setBounds", "()V"⟩
abbrev cX1_choose : ByteArray := prog_3_method_6_code
def yX1_choose : MethodName := ⟨RX1, "choose", "(IIIII)V"⟩
abbrev cX1_chooseParts : ByteArray := prog_3_method_7_code
def yX1_chooseParts : MethodName := ⟨RX1, "chooseParts", "(IIIII)V"⟩
abbrev cX1_mayBeBetter : ByteArray := prog_3_method_8_code
def yX1_mayBeBetter : MethodName := ⟨RX1, "mayBeBetter", "(IIIII)Z"⟩
abbrev cX1_keep : ByteArray := prog_3_method_9_code
def yX1_keep : MethodName := ⟨RX1, "keep", "(III)V"⟩
def RX2 : String := "PencilWorks$Grades"
def TX2 : u_T := fun k => match k with
  | 0 => ("PencilWorks$Grades", "slatsOf", "[I", true)
  | 1 => ("PencilWorks$Grades", "slatsInAll", "I", false)
  | 2 => ("PencilWorks$Grades", "least", "[I", true)
  | 3 => ("PencilWorks$Grades", "worth", "[I", true)
  | 4 => ("PencilWorks$Grades", "room", "[I", true)
  | 5 => ("PencilWorks$Grades", "number", "I", false)
  | _ => ("PencilWorks$Grades", "free", "[I", true)
def tyX2 : Nat → FieldType := fun k => match k with
  | 0 => .array .int
  | 1 => .int
  | 2 => .array .int
  | 3 => .array .int
  | 4 => .array .int
  | 5 => .int
  | _ => .array .int
abbrev wsX20 : List Cond := u_ws RX2 TX2 7
theorem nmX2 : ∀ a, a < 7 → ∀ b, b < 7 → a ≠ b → (TX2 a).2.1 ≠ (TX2 b).2.1 := by decide +kernel
theorem tyX2_ok : ∀ k, k < 7 → parseFieldDescriptor (TX2 k).2.2.1 = some (tyX2 k) := by decide +kernel
abbrev cX2_init : ByteArray := prog_4_method_1_code
def yX2_init : MethodName := ⟨RX2, "<init>", "()V"⟩
abbrev cX2_putSlats : ByteArray := prog_4_method_2_code
def yX2_putSlats : MethodName := ⟨RX2, "putSlats", "(II)I"⟩
abbrev cX2_add : ByteArray := prog_4_method_3_code
def yX2_add : MethodName := ⟨RX2, "add", "(III)I"⟩
abbrev cX2_greatestWorth : ByteArray := prog_4_method_4_code
def yX2_greatestWorth : MethodName := ⟨RX2, "greatestWorth", "()I"⟩
abbrev cX2_fill : ByteArray := prog_4_method_5_code
def yX2_fill : MethodName := ⟨RX2, "fill", "(I)I"⟩
def RX3 : String := "PencilWorks$Lots"
def TX3 : u_T := fun k => match k with
  | 0 => ("PencilWorks$Lots", "kind", "[I", true)
  | 1 => ("PencilWorks$Lots", "pieces", "[I", true)
  | 2 => ("PencilWorks$Lots", "used", "[I", true)
  | 3 => ("PencilWorks$Lots", "low", "[I", true)
  | 4 => ("PencilWorks$Lots", "high", "[I", true)
  | 5 => ("PencilWorks$Lots", "number", "I", false)
  | 6 => ("PencilWorks$Lots", "lotsOfBatch", "[I", true)
  | 7 => ("PencilWorks$Lots", "batches", "I", false)
  | _ => ("PencilWorks$Lots", "pencils", "I", false)
def tyX3 : Nat → FieldType := fun k => match k with
  | 0 => .array .int
  | 1 => .array .int
  | 2 => .array .int
  | 3 => .array .int
  | 4 => .array .int
  | 5 => .int
  | 6 => .array .int
  | 7 => .int
  | _ => .int
abbrev wsX30 : List Cond := u_ws RX3 TX3 9
theorem nmX3 : ∀ a, a < 9 → ∀ b, b < 9 → a ≠ b → (TX3 a).2.1 ≠ (TX3 b).2.1 := by decide +kernel
theorem tyX3_ok : ∀ k, k < 9 → parseFieldDescriptor (TX3 k).2.2.1 = some (tyX3 k) := by decide +kernel
abbrev cX3_init : ByteArray := prog_5_method_1_code
def yX3_init : MethodName := ⟨RX3, "<init>", "()V"⟩
abbrev cX3_add : ByteArray := prog_5_method_2_code
def yX3_add : MethodName := ⟨RX3, "add", "(IIII)I"⟩
abbrev cX3_areOfTheirKinds : ByteArray := prog_5_method_3_code
def yX3_areOfTheirKinds : MethodName := ⟨RX3, "areOfTheirKinds", "(III)Z"⟩
abbrev cX3_haveAll : ByteArray := prog_5_method_4_code
def yX3_haveAll : MethodName := ⟨RX3, "haveAll", "(IIII)Z"⟩
abbrev cX3_addBatch : ByteArray := prog_5_method_5_code
def yX3_addBatch : MethodName := ⟨RX3, "addBatch", "(IIII)I"⟩
abbrev cX3_use : ByteArray := prog_5_method_6_code
def yX3_use : MethodName := ⟨RX3, "use", "(II)V"⟩
abbrev cX3_batchesOf : ByteArray := prog_5_method_7_code
def yX3_batchesOf : MethodName := ⟨RX3, "batchesOf", "(IJ)I"⟩
abbrev cX3_lotsOf : ByteArray := prog_5_method_8_code
def yX3_lotsOf : MethodName := ⟨RX3, "lotsOf", "(J)I"⟩
def RX4 : String := "PencilWorks$Machine"
def TX4 : u_T := fun k => match k with
  | 0 => ("PencilWorks$Machine", "costs", "[I", true)
  | 1 => ("PencilWorks$Machine", "jobs", "I", false)
  | 2 => ("PencilWorks$Machine", "colour", "I", false)
  | 3 => ("PencilWorks$Machine", "jobsOf", "[I", true)
  | 4 => ("PencilWorks$Machine", "weight", "[I", true)
  | 5 => ("PencilWorks$Machine", "left", "[I", true)
  | _ => ("PencilWorks$Machine", "leastCost", "[I", true)
def tyX4 : Nat → FieldType := fun k => match k with
  | 0 => .array .int
  | 1 => .int
  | 2 => .int
  | 3 => .array .int
  | 4 => .array .int
  | 5 => .array .int
  | _ => .array .int
abbrev wsX40 : List Cond := u_ws RX4 TX4 7
theorem nmX4 : ∀ a, a < 7 → ∀ b, b < 7 → a ≠ b → (TX4 a).2.1 ≠ (TX4 b).2.1 := by decide +kernel
theorem tyX4_ok : ∀ k, k < 7 → parseFieldDescriptor (TX4 k).2.2.1 = some (tyX4 k) := by decide +kernel
abbrev cX4_init : ByteArray := prog_6_method_1_code
def yX4_init : MethodName := ⟨RX4, "<init>", "()V"⟩
abbrev cX4_add : ByteArray := prog_6_method_2_code
def yX4_add : MethodName := ⟨RX4, "add", "(I)I"⟩
abbrev cX4_runJobs : ByteArray := prog_6_method_3_code
def yX4_runJobs : MethodName := ⟨RX4, "runJobs", "()I"⟩
abbrev cX4_setWeights : ByteArray := prog_6_method_4_code
def yX4_setWeights : MethodName := ⟨RX4, "setWeights", "()I"⟩
abbrev cX4_setLeft : ByteArray := prog_6_method_5_code
def yX4_setLeft : MethodName := ⟨RX4, "setLeft", "(I)V"⟩
abbrev cX4_bestNext : ByteArray := prog_6_method_6_code
def yX4_bestNext : MethodName := ⟨RX4, "bestNext", "(II)I"⟩
abbrev cX4_costThrough : ByteArray := prog_6_method_7_code
def yX4_costThrough : MethodName := ⟨RX4, "costThrough", "(III)I"⟩
abbrev cX4_walkBestOrder : ByteArray := prog_6_method_8_code
def yX4_walkBestOrder : MethodName := ⟨RX4, "walkBestOrder", "(I)I"⟩
abbrev cX4_clearJobs : ByteArray := prog_6_method_9_code
def yX4_clearJobs : MethodName := ⟨RX4, "clearJobs", "()V"⟩
def RX5 : String := "PencilWorks$Trials"
def TX5 : u_T := fun k => match k with
  | 0 => ("PencilWorks$Trials", "batch", "[I", true)
  | 1 => ("PencilWorks$Trials", "broke", "[Z", true)
  | 2 => ("PencilWorks$Trials", "told", "[I", true)
  | 3 => ("PencilWorks$Trials", "takenBack", "[I", true)
  | 4 => ("PencilWorks$Trials", "number", "I", false)
  | _ => ("PencilWorks$Trials", "today", "I", false)
def tyX5 : Nat → FieldType := fun k => match k with
  | 0 => .array .int
  | 1 => .array .boolean
  | 2 => .array .int
  | 3 => .array .int
  | 4 => .int
  | _ => .int
abbrev wsX50 : List Cond := u_ws RX5 TX5 6
theorem nmX5 : ∀ a, a < 6 → ∀ b, b < 6 → a ≠ b → (TX5 a).2.1 ≠ (TX5 b).2.1 := by decide +kernel
theorem tyX5_ok : ∀ k, k < 6 → parseFieldDescriptor (TX5 k).2.2.1 = some (tyX5 k) := by decide +kernel
abbrev cX5_init : ByteArray := prog_7_method_1_code
def yX5_init : MethodName := ⟨RX5, "<init>", "()V"⟩
abbrev cX5_add : ByteArray := prog_7_method_2_code
def yX5_add : MethodName := ⟨RX5, "add", "(IZ)I"⟩
abbrev cX5_takeBack : ByteArray := prog_7_method_3_code
def yX5_takeBack : MethodName := ⟨RX5, "takeBack", "(I)Z"⟩
abbrev cX5_batchesThat : ByteArray := prog_7_method_4_code
def yX5_batchesThat : MethodName := ⟨RX5, "batchesThat", "(ZI)J"⟩
abbrev cX5_isKnown : ByteArray := prog_7_method_5_code
def yX5_isKnown : MethodName := ⟨RX5, "isKnown", "(II)Z"⟩
def RX6 : String := "PencilWorks"
def TX6 : u_T := fun k => match k with
  | 0 => ("PencilWorks", "earths", "LPencilWorks$Earths;", true)
  | 1 => ("PencilWorks", "lots", "LPencilWorks$Lots;", true)
  | 2 => ("PencilWorks", "trials", "LPencilWorks$Trials;", true)
  | 3 => ("PencilWorks", "blame", "LPencilWorks$Blame;", true)
  | 4 => ("PencilWorks", "grades", "LPencilWorks$Grades;", true)
  | _ => ("PencilWorks", "machine", "LPencilWorks$Machine;", true)
def tyX6 : Nat → FieldType := fun k => match k with
  | 0 => .object "PencilWorks$Earths"
  | 1 => .object "PencilWorks$Lots"
  | 2 => .object "PencilWorks$Trials"
  | 3 => .object "PencilWorks$Blame"
  | 4 => .object "PencilWorks$Grades"
  | _ => .object "PencilWorks$Machine"
abbrev wsX60 : List Cond := u_ws RX6 TX6 6
theorem nmX6 : ∀ a, a < 6 → ∀ b, b < 6 → a ≠ b → (TX6 a).2.1 ≠ (TX6 b).2.1 := by decide +kernel
theorem tyX6_ok : ∀ k, k < 6 → parseFieldDescriptor (TX6 k).2.2.1 = some (tyX6 k) := by decide +kernel
abbrev cX6_init : ByteArray := prog_1_method_1_code
def yX6_init : MethodName := ⟨RX6, "<init>", "()V"⟩
abbrev cX6_earth : ByteArray := prog_1_method_2_code
def yX6_earth : MethodName := ⟨RX6, "earth", "(IIII)I"⟩
abbrev cX6_bring : ByteArray := prog_1_method_3_code
def yX6_bring : MethodName := ⟨RX6, "bring", "(II)I"⟩
abbrev cX6_blend : ByteArray := prog_1_method_4_code
def yX6_blend : MethodName := ⟨RX6, "blend", "(II)I"⟩
abbrev cX6_parts : ByteArray := prog_1_method_5_code
def yX6_parts : MethodName := ⟨RX6, "parts", "(III)I"⟩
abbrev cX6_cores : ByteArray := prog_1_method_6_code
def yX6_cores : MethodName := ⟨RX6, "cores", "(II)I"⟩
abbrev cX6_lot : ByteArray := prog_1_method_7_code
def yX6_lot : MethodName := ⟨RX6, "lot", "(II)I"⟩
abbrev cX6_make : ByteArray := prog_1_method_8_code
def yX6_make : MethodName := ⟨RX6, "make", "(IIII)I"⟩
abbrev cX6_look : ByteArray := prog_1_method_9_code
def yX6_look : MethodName := ⟨RX6, "look", "(II)I"⟩
abbrev cX6_trial : ByteArray := prog_1_method_10_code
def yX6_trial : MethodName := ⟨RX6, "trial", "(IZ)I"⟩
abbrev cX6_undo : ByteArray := prog_1_method_11_code
def yX6_undo : MethodName := ⟨RX6, "undo", "(I)Z"⟩
abbrev cX6_days : ByteArray := prog_1_method_12_code
def yX6_days : MethodName := ⟨RX6, "days", "(I)I"⟩
abbrev cX6_explain : ByteArray := prog_1_method_13_code
def yX6_explain : MethodName := ⟨RX6, "explain", "(II)I"⟩
abbrev cX6_slats : ByteArray := prog_1_method_14_code
def yX6_slats : MethodName := ⟨RX6, "slats", "(II)I"⟩
abbrev cX6_grade : ByteArray := prog_1_method_15_code
def yX6_grade : MethodName := ⟨RX6, "grade", "(III)I"⟩
abbrev cX6_ungrade : ByteArray := prog_1_method_16_code
def yX6_ungrade : MethodName := ⟨RX6, "ungrade", "()I"⟩
abbrev cX6_most : ByteArray := prog_1_method_17_code
def yX6_most : MethodName := ⟨RX6, "most", "()I"⟩
abbrev cX6_change : ByteArray := prog_1_method_18_code
def yX6_change : MethodName := ⟨RX6, "change", "(III)V"⟩
abbrev cX6_job : ByteArray := prog_1_method_19_code
def yX6_job : MethodName := ⟨RX6, "job", "(I)I"⟩
abbrev cX6_on : ByteArray := prog_1_method_20_code
def yX6_on : MethodName := ⟨RX6, "on", "(I)V"⟩
abbrev cX6_changes : ByteArray := prog_1_method_21_code
def yX6_changes : MethodName := ⟨RX6, "changes", "()I"⟩
abbrev cX6_count : ByteArray := prog_1_method_22_code
def yX6_count : MethodName := ⟨RX6, "count", "(I)I"⟩
abbrev cX6_isWithin : ByteArray := prog_1_method_23_code
def yX6_isWithin : MethodName := ⟨RX6, "isWithin", "(III)Z"⟩
abbrev cX6_isNumberOf : ByteArray := prog_1_method_24_code
def yX6_isNumberOf : MethodName := ⟨RX6, "isNumberOf", "(II)Z"⟩
abbrev cX6_isSpan : ByteArray := prog_1_method_25_code
def yX6_isSpan : MethodName := ⟨RX6, "isSpan", "(II)Z"⟩
def RX7 : String := "PencilWorksModel"
def TX7 : u_T := fun k => match k with
  | 0 => ("PencilWorksModel", "thrown", "I", false)
  | 1 => ("PencilWorksModel", "today", "I", false)
  | 2 => ("PencilWorksModel", "low", "[I", true)
  | 3 => ("PencilWorksModel", "high", "[I", true)
  | 4 => ("PencilWorksModel", "price", "[I", true)
  | 5 => ("PencilWorksModel", "has", "[I", true)
  | 6 => ("PencilWorksModel", "earths", "I", false)
  | 7 => ("PencilWorksModel", "part", "[I", true)
  | 8 => ("PencilWorksModel", "best", "[I", true)
  | 9 => ("PencilWorksModel", "bestPrice", "I", false)
  | 10 => ("PencilWorksModel", "bestLow", "I", false)
  | 11 => ("PencilWorksModel", "bestHigh", "I", false)
  | 12 => ("PencilWorksModel", "kind", "[I", true)
  | 13 => ("PencilWorksModel", "pieces", "[I", true)
  | 14 => ("PencilWorksModel", "used", "[I", true)
  | 15 => ("PencilWorksModel", "lotLow", "[I", true)
  | 16 => ("PencilWorksModel", "lotHigh", "[I", true)
  | 17 => ("PencilWorksModel", "lots", "I", false)
  | 18 => ("PencilWorksModel", "batch", "[I", true)
  | 19 => ("PencilWorksModel", "batches", "I", false)
  | 20 => ("PencilWorksModel", "pencils", "I", false)
  | 21 => ("PencilWorksModel", "tBatch", "[I", true)
  | 22 => ("PencilWorksModel", "tBroke", "[Z", true)
  | 23 => ("PencilWorksModel", "tTold", "[I", true)
  | 24 => ("PencilWorksModel", "tBack", "[I", true)
  | 25 => ("PencilWorksModel", "trials", "I", false)
  | 26 => ("PencilWorksModel", "fewest", "I", false)
  | 27 => ("PencilWorksModel", "ways", "I", false)
  | 28 => ("PencilWorksModel", "sure", "I", false)
  | 29 => ("PencilWorksModel", "isBroken", "[Z", true)
  | 30 => ("PencilWorksModel", "slat", "[I", true)
  | 31 => ("PencilWorksModel", "least", "[I", true)
  | 32 => ("PencilWorksModel", "worth", "[I", true)
  | 33 => ("PencilWorksModel", "room", "[I", true)
  | 34 => ("PencilWorksModel", "grades", "I", false)
  | 35 => ("PencilWorksModel", "free", "[I", true)
  | 36 => ("PencilWorksModel", "isDone", "[Z", true)
  | 37 => ("PencilWorksModel", "cost", "[I", true)
  | 38 => ("PencilWorksModel", "job", "[I", true)
  | 39 => ("PencilWorksModel", "jobs", "I", false)
  | 40 => ("PencilWorksModel", "colour", "I", false)
  | _ => ("PencilWorksModel", "rest", "[I", true)
def tyX7 : Nat → FieldType := fun k => match k with
  | 0 => .int
  | 1 => .int
  | 2 => .array .int
  | 3 => .array .int
  | 4 => .array .int
  | 5 => .array .int
  | 6 => .int
  | 7 => .array .int
  | 8 => .array .int
  | 9 => .int
  | 10 => .int
  | 11 => .int
  | 12 => .array .int
  | 13 => .array .int
  | 14 => .array .int
  | 15 => .array .int
  | 16 => .array .int
  | 17 => .int
  | 18 => .array .int
  | 19 => .int
  | 20 => .int
  | 21 => .array .int
  | 22 => .array .boolean
  | 23 => .array .int
  | 24 => .array .int
  | 25 => .int
  | 26 => .int
  | 27 => .int
  | 28 => .int
  | 29 => .array .boolean
  | 30 => .array .int
  | 31 => .array .int
  | 32 => .array .int
  | 33 => .array .int
  | 34 => .int
  | 35 => .array .int
  | 36 => .array .boolean
  | 37 => .array .int
  | 38 => .array .int
  | 39 => .int
  | 40 => .int
  | _ => .array .int
abbrev wsX70 : List Cond := u_ws RX7 TX7 42
theorem nmX7 : ∀ a, a < 42 → ∀ b, b < 42 → a ≠ b → (TX7 a).2.1 ≠ (TX7 b).2.1 := by decide +kernel
theorem tyX7_ok : ∀ k, k < 42 → parseFieldDescriptor (TX7 k).2.2.1 = some (tyX7 k) := by decide +kernel
abbrev cX7_init : ByteArray := prog_9_method_1_code
def yX7_init : MethodName := ⟨RX7, "<init>", "()V"⟩
abbrev cX7_thrown : ByteArray := prog_9_method_2_code
def yX7_thrown : MethodName := ⟨RX7, "thrown", "()I"⟩
abbrev cX7_throwsIf : ByteArray := prog_9_method_3_code
def yX7_throwsIf : MethodName := ⟨RX7, "throwsIf", "(ZI)Z"⟩
abbrev cX7_in : ByteArray := prog_9_method_4_code
def yX7_in : MethodName := ⟨RX7, "in", "(III)Z"⟩
abbrev cX7_earth : ByteArray := prog_9_method_5_code
def yX7_earth : MethodName := ⟨RX7, "earth", "(IIII)I"⟩
abbrev cX7_noEarth : ByteArray := prog_9_method_6_code
def yX7_noEarth : MethodName := ⟨RX7, "noEarth", "(I)Z"⟩
abbrev cX7_bring : ByteArray := prog_9_method_7_code
def yX7_bring : MethodName := ⟨RX7, "bring", "(II)I"⟩
abbrev cX7_goes : ByteArray := prog_9_method_8_code
def yX7_goes : MethodName := ⟨RX7, "goes", "(IIIIIII)V"⟩
abbrev cX7_blends : ByteArray := prog_9_method_9_code
def yX7_blends : MethodName := ⟨RX7, "blends", "(II)I"⟩
abbrev cX7_noGrade : ByteArray := prog_9_method_10_code
def yX7_noGrade : MethodName := ⟨RX7, "noGrade", "(II)Z"⟩
abbrev cX7_blend : ByteArray := prog_9_method_11_code
def yX7_blend : MethodName := ⟨RX7, "blend", "(II)I"⟩
abbrev cX7_parts : ByteArray := prog_9_method_12_code
def yX7_parts : MethodName := ⟨RX7, "parts", "(III)I"⟩
abbrev cX7_noLot : ByteArray := prog_9_method_13_code
def yX7_noLot : MethodName := ⟨RX7, "noLot", "(I)Z"⟩
abbrev cX7_adds : ByteArray := prog_9_method_14_code
def yX7_adds : MethodName := ⟨RX7, "adds", "(IIII)I"⟩
abbrev cX7_cores : ByteArray := prog_9_method_15_code
def yX7_cores : MethodName := ⟨RX7, "cores", "(II)I"⟩
abbrev cX7_lot : ByteArray := prog_9_method_16_code
def yX7_lot : MethodName := ⟨RX7, "lot", "(II)I"⟩
abbrev cX7_uses : ByteArray := prog_9_method_17_code
def yX7_uses : MethodName := ⟨RX7, "uses", "(II)V"⟩
abbrev cX7_make : ByteArray := prog_9_method_18_code
def yX7_make : MethodName := ⟨RX7, "make", "(IIII)I"⟩
abbrev cX7_trial : ByteArray := prog_9_method_19_code
def yX7_trial : MethodName := ⟨RX7, "trial", "(IZ)I"⟩
abbrev cX7_undo : ByteArray := prog_9_method_20_code
def yX7_undo : MethodName := ⟨RX7, "undo", "(I)Z"⟩
abbrev cX7_days : ByteArray := prog_9_method_21_code
def yX7_days : MethodName := ⟨RX7, "days", "(I)I"⟩
abbrev cX7_did : ByteArray := prog_9_method_22_code
def yX7_did : MethodName := ⟨RX7, "did", "(IZI)Z"⟩
abbrev cX7_explains : ByteArray := prog_9_method_23_code
def yX7_explains : MethodName := ⟨RX7, "explains", "(I)V"⟩
abbrev cX7_explain : ByteArray := prog_9_method_24_code
def yX7_explain : MethodName := ⟨RX7, "explain", "(II)I"⟩
abbrev cX7_look : ByteArray := prog_9_method_25_code
def yX7_look : MethodName := ⟨RX7, "look", "(II)I"⟩
abbrev cX7_slatsOfAll : ByteArray := prog_9_method_26_code
def yX7_slatsOfAll : MethodName := ⟨RX7, "slatsOfAll", "()I"⟩
abbrev cX7_slats : ByteArray := prog_9_method_27_code
def yX7_slats : MethodName := ⟨RX7, "slats", "(II)I"⟩
abbrev cX7_grade : ByteArray := prog_9_method_28_code
def yX7_grade : MethodName := ⟨RX7, "grade", "(III)I"⟩
abbrev cX7_ungrade : ByteArray := prog_9_method_29_code
def yX7_ungrade : MethodName := ⟨RX7, "ungrade", "()I"⟩
abbrev cX7_dearest : ByteArray := prog_9_method_30_code
def yX7_dearest : MethodName := ⟨RX7, "dearest", "()I"⟩
abbrev cX7_most : ByteArray := prog_9_method_31_code
def yX7_most : MethodName := ⟨RX7, "most", "()I"⟩
abbrev cX7_noColour : ByteArray := prog_9_method_32_code
def yX7_noColour : MethodName := ⟨RX7, "noColour", "(I)Z"⟩
abbrev cX7_change : ByteArray := prog_9_method_33_code
def yX7_change : MethodName := ⟨RX7, "change", "(III)V"⟩
abbrev cX7_job : ByteArray := prog_9_method_34_code
def yX7_job : MethodName := ⟨RX7, "job", "(I)I"⟩
abbrev cX7_on : ByteArray := prog_9_method_35_code
def yX7_on : MethodName := ⟨RX7, "on", "(I)V"⟩
abbrev cX7_costs : ByteArray := prog_9_method_36_code
def yX7_costs : MethodName := ⟨RX7, "costs", "(II)I"⟩
abbrev cX7_next : ByteArray := prog_9_method_37_code
def yX7_next : MethodName := ⟨RX7, "next", "(III)I"⟩
abbrev cX7_changes : ByteArray := prog_9_method_38_code
def yX7_changes : MethodName := ⟨RX7, "changes", "()I"⟩
abbrev cX7_count : ByteArray := prog_9_method_39_code
def yX7_count : MethodName := ⟨RX7, "count", "(I)I"⟩
def RJ6 : String := "java/lang/Integer"
def TJ6 : u_T := fun k => match k with
  | _ => ("", "", "", false)
def tyJ6 : Nat → FieldType := fun k => match k with
  | _ => .int
abbrev wsJ60 : List Cond := u_ws RJ6 TJ6 0
theorem nmJ6 : ∀ a, a < 0 → ∀ b, b < 0 → a ≠ b → (TJ6 a).2.1 ≠ (TJ6 b).2.1 := by decide +kernel
theorem tyJ6_ok : ∀ k, k < 0 → parseFieldDescriptor (TJ6 k).2.2.1 = some (tyJ6 k) := by decide +kernel
abbrev cJ6_bitCount_0f7a4 : ByteArray := prog_13_method_49_code
def yJ6_bitCount_0f7a4 : MethodName := ⟨RJ6, "bitCount", "(I)I"⟩
def RJ9 : String := "java/lang/Math"
def TJ9 : u_T := fun k => match k with
  | _ => ("", "", "", false)
def tyJ9 : Nat → FieldType := fun k => match k with
  | _ => .int
abbrev wsJ90 : List Cond := u_ws RJ9 TJ9 0
theorem nmJ9 : ∀ a, a < 0 → ∀ b, b < 0 → a ≠ b → (TJ9 a).2.1 ≠ (TJ9 b).2.1 := by decide +kernel
theorem tyJ9_ok : ∀ k, k < 0 → parseFieldDescriptor (TJ9 k).2.2.1 = some (tyJ9 k) := by decide +kernel
abbrev cJ9_max_7cf53 : ByteArray := prog_14_method_65_code
def yJ9_max_7cf53 : MethodName := ⟨RJ9, "max", "(II)I"⟩
abbrev cJ9_min_7cf53 : ByteArray := prog_14_method_69_code
def yJ9_min_7cf53 : MethodName := ⟨RJ9, "min", "(II)I"⟩
def RJ0 : String := "java/lang/String"
def TJ0 : u_T := fun k => match k with
  | _ => ("", "", "", false)
def tyJ0 : Nat → FieldType := fun k => match k with
  | _ => .int
abbrev wsJ00 : List Cond := u_ws RJ0 TJ0 0
theorem nmJ0 : ∀ a, a < 0 → ∀ b, b < 0 → a ≠ b → (TJ0 a).2.1 ≠ (TJ0 b).2.1 := by decide +kernel
theorem tyJ0_ok : ∀ k, k < 0 → parseFieldDescriptor (TJ0 k).2.2.1 = some (tyJ0 k) := by decide +kernel
def RL : String := "PencilWorksLaw"
abbrev cL_earth : ByteArray := method_3_code
def yL_earth : MethodName := ⟨RL, "earth", "(LPencilWorks;IIII[J)I"⟩
abbrev cL_bring : ByteArray := method_4_code
def yL_bring : MethodName := ⟨RL, "bring", "(LPencilWorks;II[J)I"⟩
abbrev cL_blend : ByteArray := method_5_code
def yL_blend : MethodName := ⟨RL, "blend", "(LPencilWorks;II[J)I"⟩
abbrev cL_parts : ByteArray := method_6_code
def yL_parts : MethodName := ⟨RL, "parts", "(LPencilWorks;III[J)I"⟩
abbrev cL_cores : ByteArray := method_7_code
def yL_cores : MethodName := ⟨RL, "cores", "(LPencilWorks;II[J)I"⟩
abbrev cL_lot : ByteArray := method_8_code
def yL_lot : MethodName := ⟨RL, "lot", "(LPencilWorks;II[J)I"⟩
abbrev cL_make : ByteArray := method_9_code
def yL_make : MethodName := ⟨RL, "make", "(LPencilWorks;IIII[J)I"⟩
abbrev cL_look : ByteArray := method_10_code
def yL_look : MethodName := ⟨RL, "look", "(LPencilWorks;II[J)I"⟩
abbrev cL_trial : ByteArray := method_11_code
def yL_trial : MethodName := ⟨RL, "trial", "(LPencilWorks;IZ[J)I"⟩
abbrev cL_undo : ByteArray := method_12_code
def yL_undo : MethodName := ⟨RL, "undo", "(LPencilWorks;I[J)I"⟩
abbrev cL_days : ByteArray := method_13_code
def yL_days : MethodName := ⟨RL, "days", "(LPencilWorks;I[J)I"⟩
abbrev cL_explain : ByteArray := method_14_code
def yL_explain : MethodName := ⟨RL, "explain", "(LPencilWorks;II[J)I"⟩
abbrev cL_slats : ByteArray := method_15_code
def yL_slats : MethodName := ⟨RL, "slats", "(LPencilWorks;II[J)I"⟩
abbrev cL_grade : ByteArray := method_16_code
def yL_grade : MethodName := ⟨RL, "grade", "(LPencilWorks;III[J)I"⟩
abbrev cL_change : ByteArray := method_17_code
def yL_change : MethodName := ⟨RL, "change", "(LPencilWorks;III)I"⟩
abbrev cL_job : ByteArray := method_18_code
def yL_job : MethodName := ⟨RL, "job", "(LPencilWorks;I[J)I"⟩
abbrev cL_on : ByteArray := method_19_code
def yL_on : MethodName := ⟨RL, "on", "(LPencilWorks;I)I"⟩
abbrev cL_law : ByteArray := code
def yL_law : MethodName := ⟨RL, "law", "([I)Z"⟩
def wsX0_init : List Cond := .code yX0_init cX0_init 1 none :: ([.methodLink RX0 3 objectInit, .instanceMethod objectInit, .code objectInit ⟨#[0xb1]⟩ 1 none, .arrayClass .int, .fieldLink RX0 9 "PencilWorks$Blame" "suspects" "[I"] ++ wsX00)
def wsX3_lotsOf : List Cond := .code yX3_lotsOf cX3_lotsOf 5 (some .int) :: ([.fieldLink RX3 41 "PencilWorks$Lots" "batches" "I", .fieldLink RX3 27 "PencilWorks$Lots" "lotsOfBatch" "[I"] ++ wsX30)
def wsX0_setSuspects : List Cond := .code yX0_setSuspects cX0_setSuspects 6 none :: ([.fieldLink RX0 39 "PencilWorks$Blame" "broken" "I", .fieldLink RX0 42 "PencilWorks$Lots" "batches" "I", .fieldLink RX0 9 "PencilWorks$Blame" "suspects" "[I", .fieldLink RX0 45 "PencilWorks$Lots" "lotsOfBatch" "[I"] ++ wsX00 ++ wsX30)
def wsX0_firstUnexplained : List Cond := .code yX0_firstUnexplained cX0_firstUnexplained 3 (some .int) :: ([.fieldLink RX0 39 "PencilWorks$Blame" "broken" "I", .fieldLink RX0 9 "PencilWorks$Blame" "suspects" "[I"] ++ wsX00)
def wsX0_keep : List Cond := .code yX0_keep cX0_keep 3 none :: ([.fieldLink RX0 15 "PencilWorks$Blame" "fewest" "I", .fieldLink RX0 19 "PencilWorks$Blame" "ways" "I", .fieldLink RX0 22 "PencilWorks$Blame" "sure" "I"] ++ wsX00)
def wsX0_blameEach : List Cond := .code yX0_blameEach cX0_blameEach 8 none :: ([.methodLink RX0 35 yX0_blameMore, .instanceMethod yX0_blameMore, .selects RX0 yX0_blameMore yX0_blameMore, .initialized RX0, .code yX0_blameMore cX0_blameMore 5 none, .fieldLink RX0 15 "PencilWorks$Blame" "fewest" "I", .methodLink RX0 48 yX0_firstUnexplained, .instanceMethod yX0_firstUnexplained, .selects RX0 yX0_firstUnexplained yX0_firstUnexplained, .code yX0_firstUnexplained cX0_firstUnexplained 3 (some .int), .fieldLink RX0 39 "PencilWorks$Blame" "broken" "I", .fieldLink RX0 9 "PencilWorks$Blame" "suspects" "[I", .methodLink RX0 52 yX0_keep, .instanceMethod yX0_keep, .selects RX0 yX0_keep yX0_keep, .code yX0_keep cX0_keep 3 none, .fieldLink RX0 19 "PencilWorks$Blame" "ways" "I", .fieldLink RX0 22 "PencilWorks$Blame" "sure" "I", .methodLink RX0 56 yX0_blameEach, .instanceMethod yX0_blameEach, .selects RX0 yX0_blameEach yX0_blameEach] ++ wsX00)
def wsX0_blameMore : List Cond := .code yX0_blameMore cX0_blameMore 5 none :: ([.fieldLink RX0 15 "PencilWorks$Blame" "fewest" "I", .methodLink RX0 48 yX0_firstUnexplained, .instanceMethod yX0_firstUnexplained, .selects RX0 yX0_firstUnexplained yX0_firstUnexplained, .initialized RX0, .code yX0_firstUnexplained cX0_firstUnexplained 3 (some .int), .fieldLink RX0 39 "PencilWorks$Blame" "broken" "I", .fieldLink RX0 9 "PencilWorks$Blame" "suspects" "[I", .methodLink RX0 52 yX0_keep, .instanceMethod yX0_keep, .selects RX0 yX0_keep yX0_keep, .code yX0_keep cX0_keep 3 none, .fieldLink RX0 19 "PencilWorks$Blame" "ways" "I", .fieldLink RX0 22 "PencilWorks$Blame" "sure" "I", .methodLink RX0 56 yX0_blameEach, .instanceMethod yX0_blameEach, .selects RX0 yX0_blameEach yX0_blameEach, .code yX0_blameEach cX0_blameEach 8 none, .methodLink RX0 35 yX0_blameMore, .instanceMethod yX0_blameMore, .selects RX0 yX0_blameMore yX0_blameMore] ++ wsX00)
def wsX0_seek_r1 : List Cond := [Cond.fieldLink RX0 15 "PencilWorks$Blame" "fewest" "I", Cond.fieldLink RX0 19 "PencilWorks$Blame" "ways" "I", Cond.fieldLink RX0 22 "PencilWorks$Blame" "sure" "I", Cond.methodLink RX0 25 yX3_lotsOf, Cond.instanceMethod yX3_lotsOf, Cond.selects RX3 yX3_lotsOf yX3_lotsOf, Cond.initialized RX3, Cond.code yX3_lotsOf cX3_lotsOf 5 (some .int), Cond.fieldLink RX3 41 "PencilWorks$Lots" "batches" "I", Cond.fieldLink RX3 27 "PencilWorks$Lots" "lotsOfBatch" "[I", Cond.methodLink RX0 31 yX0_setSuspects, Cond.instanceMethod yX0_setSuspects, Cond.selects RX0 yX0_setSuspects yX0_setSuspects, Cond.initialized RX0, Cond.code yX0_setSuspects cX0_setSuspects 6 none, Cond.fieldLink RX0 39 "PencilWorks$Blame" "broken" "I", Cond.fieldLink RX0 42 "PencilWorks$Lots" "batches" "I", Cond.fieldLink RX0 9 "PencilWorks$Blame" "suspects" "[I", Cond.fieldLink RX0 45 "PencilWorks$Lots" "lotsOfBatch" "[I", Cond.methodLink RX0 35 yX0_blameMore, Cond.instanceMethod yX0_blameMore, Cond.selects RX0 yX0_blameMore yX0_blameMore, Cond.code yX0_blameMore cX0_blameMore 5 none, Cond.methodLink RX0 48 yX0_firstUnexplained]
def wsX0_seek_r2 : List Cond := [Cond.instanceMethod yX0_firstUnexplained, Cond.selects RX0 yX0_firstUnexplained yX0_firstUnexplained, Cond.code yX0_firstUnexplained cX0_firstUnexplained 3 (some .int), Cond.methodLink RX0 52 yX0_keep, Cond.instanceMethod yX0_keep, Cond.selects RX0 yX0_keep yX0_keep, Cond.code yX0_keep cX0_keep 3 none, Cond.methodLink RX0 56 yX0_blameEach, Cond.instanceMethod yX0_blameEach, Cond.selects RX0 yX0_blameEach yX0_blameEach, Cond.code yX0_blameEach cX0_blameEach 8 none]
def wsX0_seek : List Cond := .code yX0_seek cX0_seek 6 none :: ((wsX0_seek_r1 ++ wsX0_seek_r2) ++ wsX00 ++ wsX30)
def wsX1_init : List Cond := .code yX1_init cX1_init 1 none :: ([.methodLink RX1 3 objectInit, .instanceMethod objectInit, .code objectInit ⟨#[0xb1]⟩ 1 none, .arrayClass .int, .fieldLink RX1 9 "PencilWorks$Earths" "low" "[I", .fieldLink RX1 15 "PencilWorks$Earths" "high" "[I", .fieldLink RX1 18 "PencilWorks$Earths" "price" "[I", .fieldLink RX1 21 "PencilWorks$Earths" "has" "[I", .fieldLink RX1 24 "PencilWorks$Earths" "best" "[I", .fieldLink RX1 27 "PencilWorks$Earths" "bestPrice" "I", .fieldLink RX1 31 "PencilWorks$Earths" "chosen" "[I", .fieldLink RX1 34 "PencilWorks$Earths" "partsFrom" "[I", .fieldLink RX1 37 "PencilWorks$Earths" "leastPriceFrom" "[I", .fieldLink RX1 40 "PencilWorks$Earths" "mostLowFrom" "[I", .fieldLink RX1 43 "PencilWorks$Earths" "leastHighFrom" "[I"] ++ wsX10)
def wsX1_add : List Cond := .code yX1_add cX1_add 6 (some .int) :: ([.fieldLink RX1 46 "PencilWorks$Earths" "number" "I", .fieldLink RX1 9 "PencilWorks$Earths" "low" "[I", .fieldLink RX1 15 "PencilWorks$Earths" "high" "[I", .fieldLink RX1 18 "PencilWorks$Earths" "price" "[I", .fieldLink RX1 21 "PencilWorks$Earths" "has" "[I"] ++ wsX10)
def wsX1_setBounds : List Cond := .code yX1_setBounds cX1_setBounds 2 none :: ([.fieldLink RX1 34 "PencilWorks$Earths" "partsFrom" "[I", .fieldLink RX1 46 "PencilWorks$Earths" "number" "I", .fieldLink RX1 37 "PencilWorks$Earths" "leastPriceFrom" "[I", .fieldLink RX1 40 "PencilWorks$Earths" "mostLowFrom" "[I", .fieldLink RX1 43 "PencilWorks$Earths" "leastHighFrom" "[I", .fieldLink RX1 21 "PencilWorks$Earths" "has" "[I", .fieldLink RX1 18 "PencilWorks$Earths" "price" "[I", .methodLink RX1 62 Lib.Math.min.name, .static Lib.Math.min.name, .initialized "java/lang/Math", .code Lib.Math.min.name Lib.Math.min.code 2 (some .int), .fieldLink RX1 9 "PencilWorks$Earths" "low" "[I", .methodLink RX1 68 Lib.Math.max.name, .static Lib.Math.max.name, .code Lib.Math.max.name Lib.Math.max.code 2 (some .int), .fieldLink RX1 15 "PencilWorks$Earths" "high" "[I"] ++ wsX10)
def wsX1_mayBeBetter : List Cond := .code yX1_mayBeBetter cX1_mayBeBetter 6 (some .boolean) :: ([.fieldLink RX1 34 "PencilWorks$Earths" "partsFrom" "[I", .fieldLink RX1 27 "PencilWorks$Earths" "bestPrice" "I", .fieldLink RX1 37 "PencilWorks$Earths" "leastPriceFrom" "[I", .fieldLink RX1 40 "PencilWorks$Earths" "mostLowFrom" "[I", .fieldLink RX1 49 "PencilWorks$Earths" "leastLows" "I", .fieldLink RX1 43 "PencilWorks$Earths" "leastHighFrom" "[I", .fieldLink RX1 52 "PencilWorks$Earths" "mostHighs" "I"] ++ wsX10)
def wsX1_keep : List Cond := .code yX1_keep cX1_keep 5 none :: ([.fieldLink RX1 27 "PencilWorks$Earths" "bestPrice" "I", .fieldLink RX1 82 "PencilWorks$Earths" "bestLow" "I", .fieldLink RX1 85 "PencilWorks$Earths" "bestHigh" "I", .fieldLink RX1 46 "PencilWorks$Earths" "number" "I", .fieldLink RX1 24 "PencilWorks$Earths" "best" "[I", .fieldLink RX1 31 "PencilWorks$Earths" "chosen" "[I"] ++ wsX10)
def wsX1_choose_r1 : List Cond := [Cond.fieldLink RX1 46 "PencilWorks$Earths" "number" "I", Cond.methodLink RX1 71 yX1_mayBeBetter, Cond.instanceMethod yX1_mayBeBetter, Cond.selects RX1 yX1_mayBeBetter yX1_mayBeBetter, Cond.initialized RX1, Cond.code yX1_mayBeBetter cX1_mayBeBetter 6 (some .boolean), Cond.fieldLink RX1 34 "PencilWorks$Earths" "partsFrom" "[I", Cond.fieldLink RX1 27 "PencilWorks$Earths" "bestPrice" "I", Cond.fieldLink RX1 37 "PencilWorks$Earths" "leastPriceFrom" "[I", Cond.fieldLink RX1 40 "PencilWorks$Earths" "mostLowFrom" "[I", Cond.fieldLink RX1 49 "PencilWorks$Earths" "leastLows" "I", Cond.fieldLink RX1 43 "PencilWorks$Earths" "leastHighFrom" "[I", Cond.fieldLink RX1 52 "PencilWorks$Earths" "mostHighs" "I", Cond.methodLink RX1 75 yX1_keep, Cond.instanceMethod yX1_keep, Cond.selects RX1 yX1_keep yX1_keep, Cond.code yX1_keep cX1_keep 5 none, Cond.fieldLink RX1 82 "PencilWorks$Earths" "bestLow" "I", Cond.fieldLink RX1 85 "PencilWorks$Earths" "bestHigh" "I", Cond.fieldLink RX1 24 "PencilWorks$Earths" "best" "[I", Cond.fieldLink RX1 31 "PencilWorks$Earths" "chosen" "[I", Cond.methodLink RX1 79 yX1_chooseParts, Cond.instanceMethod yX1_chooseParts, Cond.selects RX1 yX1_chooseParts yX1_chooseParts]
def wsX1_choose_r2 : List Cond := [Cond.code yX1_chooseParts cX1_chooseParts 8 none, Cond.fieldLink RX1 21 "PencilWorks$Earths" "has" "[I", Cond.methodLink RX1 62 Lib.Math.min.name, Cond.static Lib.Math.min.name, Cond.initialized "java/lang/Math", Cond.code Lib.Math.min.name Lib.Math.min.code 2 (some .int), Cond.fieldLink RX1 18 "PencilWorks$Earths" "price" "[I", Cond.fieldLink RX1 9 "PencilWorks$Earths" "low" "[I", Cond.fieldLink RX1 15 "PencilWorks$Earths" "high" "[I", Cond.methodLink RX1 58 yX1_choose, Cond.instanceMethod yX1_choose, Cond.selects RX1 yX1_choose yX1_choose]
def wsX1_choose : List Cond := .code yX1_choose cX1_choose 6 none :: ((wsX1_choose_r1 ++ wsX1_choose_r2) ++ wsX10)
def wsX1_chooseParts_r1 : List Cond := [Cond.fieldLink RX1 21 "PencilWorks$Earths" "has" "[I", Cond.methodLink RX1 62 Lib.Math.min.name, Cond.static Lib.Math.min.name, Cond.initialized "java/lang/Math", Cond.code Lib.Math.min.name Lib.Math.min.code 2 (some .int), Cond.fieldLink RX1 31 "PencilWorks$Earths" "chosen" "[I", Cond.fieldLink RX1 18 "PencilWorks$Earths" "price" "[I", Cond.fieldLink RX1 9 "PencilWorks$Earths" "low" "[I", Cond.fieldLink RX1 15 "PencilWorks$Earths" "high" "[I", Cond.methodLink RX1 58 yX1_choose, Cond.instanceMethod yX1_choose, Cond.selects RX1 yX1_choose yX1_choose, Cond.initialized RX1, Cond.code yX1_choose cX1_choose 6 none, Cond.fieldLink RX1 46 "PencilWorks$Earths" "number" "I", Cond.methodLink RX1 71 yX1_mayBeBetter, Cond.instanceMethod yX1_mayBeBetter, Cond.selects RX1 yX1_mayBeBetter yX1_mayBeBetter, Cond.code yX1_mayBeBetter cX1_mayBeBetter 6 (some .boolean), Cond.fieldLink RX1 34 "PencilWorks$Earths" "partsFrom" "[I", Cond.fieldLink RX1 27 "PencilWorks$Earths" "bestPrice" "I", Cond.fieldLink RX1 37 "PencilWorks$Earths" "leastPriceFrom" "[I", Cond.fieldLink RX1 40 "PencilWorks$Earths" "mostLowFrom" "[I", Cond.fieldLink RX1 49 "PencilWorks$Earths" "leastLows" "I"]
def wsX1_chooseParts_r2 : List Cond := [Cond.fieldLink RX1 43 "PencilWorks$Earths" "leastHighFrom" "[I", Cond.fieldLink RX1 52 "PencilWorks$Earths" "mostHighs" "I", Cond.methodLink RX1 75 yX1_keep, Cond.instanceMethod yX1_keep, Cond.selects RX1 yX1_keep yX1_keep, Cond.code yX1_keep cX1_keep 5 none, Cond.fieldLink RX1 82 "PencilWorks$Earths" "bestLow" "I", Cond.fieldLink RX1 85 "PencilWorks$Earths" "bestHigh" "I", Cond.fieldLink RX1 24 "PencilWorks$Earths" "best" "[I", Cond.methodLink RX1 79 yX1_chooseParts, Cond.instanceMethod yX1_chooseParts, Cond.selects RX1 yX1_chooseParts yX1_chooseParts]
def wsX1_chooseParts : List Cond := .code yX1_chooseParts cX1_chooseParts 8 none :: ((wsX1_chooseParts_r1 ++ wsX1_chooseParts_r2) ++ wsX10)
def wsX1_seek_r1 : List Cond := [Cond.fieldLink RX1 27 "PencilWorks$Earths" "bestPrice" "I", Cond.fieldLink RX1 49 "PencilWorks$Earths" "leastLows" "I", Cond.fieldLink RX1 52 "PencilWorks$Earths" "mostHighs" "I", Cond.methodLink RX1 55 yX1_setBounds, Cond.instanceMethod yX1_setBounds, Cond.selects RX1 yX1_setBounds yX1_setBounds, Cond.initialized RX1, Cond.code yX1_setBounds cX1_setBounds 2 none, Cond.fieldLink RX1 34 "PencilWorks$Earths" "partsFrom" "[I", Cond.fieldLink RX1 46 "PencilWorks$Earths" "number" "I", Cond.fieldLink RX1 37 "PencilWorks$Earths" "leastPriceFrom" "[I", Cond.fieldLink RX1 40 "PencilWorks$Earths" "mostLowFrom" "[I", Cond.fieldLink RX1 43 "PencilWorks$Earths" "leastHighFrom" "[I", Cond.fieldLink RX1 21 "PencilWorks$Earths" "has" "[I", Cond.fieldLink RX1 18 "PencilWorks$Earths" "price" "[I", Cond.methodLink RX1 62 Lib.Math.min.name, Cond.static Lib.Math.min.name, Cond.initialized "java/lang/Math", Cond.code Lib.Math.min.name Lib.Math.min.code 2 (some .int), Cond.fieldLink RX1 9 "PencilWorks$Earths" "low" "[I", Cond.methodLink RX1 68 Lib.Math.max.name, Cond.static Lib.Math.max.name, Cond.code Lib.Math.max.name Lib.Math.max.code 2 (some .int), Cond.fieldLink RX1 15 "PencilWorks$Earths" "high" "[I"]
def wsX1_seek_r2 : List Cond := [Cond.methodLink RX1 58 yX1_choose, Cond.instanceMethod yX1_choose, Cond.selects RX1 yX1_choose yX1_choose, Cond.code yX1_choose cX1_choose 6 none, Cond.methodLink RX1 71 yX1_mayBeBetter, Cond.instanceMethod yX1_mayBeBetter, Cond.selects RX1 yX1_mayBeBetter yX1_mayBeBetter, Cond.code yX1_mayBeBetter cX1_mayBeBetter 6 (some .boolean), Cond.methodLink RX1 75 yX1_keep, Cond.instanceMethod yX1_keep, Cond.selects RX1 yX1_keep yX1_keep, Cond.code yX1_keep cX1_keep 5 none, Cond.fieldLink RX1 82 "PencilWorks$Earths" "bestLow" "I", Cond.fieldLink RX1 85 "PencilWorks$Earths" "bestHigh" "I", Cond.fieldLink RX1 24 "PencilWorks$Earths" "best" "[I", Cond.fieldLink RX1 31 "PencilWorks$Earths" "chosen" "[I", Cond.methodLink RX1 79 yX1_chooseParts, Cond.instanceMethod yX1_chooseParts, Cond.selects RX1 yX1_chooseParts yX1_chooseParts, Cond.code yX1_chooseParts cX1_chooseParts 8 none]
def wsX1_seek : List Cond := .code yX1_seek cX1_seek 3 none :: ((wsX1_seek_r1 ++ wsX1_seek_r2) ++ wsX10)
def wsX1_takeBest : List Cond := .code yX1_takeBest cX1_takeBest 2 none :: ([.fieldLink RX1 46 "PencilWorks$Earths" "number" "I", .fieldLink RX1 21 "PencilWorks$Earths" "has" "[I", .fieldLink RX1 24 "PencilWorks$Earths" "best" "[I"] ++ wsX10)
def wsX2_init : List Cond := .code yX2_init cX2_init 1 none :: ([.methodLink RX2 3 objectInit, .instanceMethod objectInit, .code objectInit ⟨#[0xb1]⟩ 1 none, .arrayClass .int, .fieldLink RX2 9 "PencilWorks$Grades" "slatsOf" "[I", .fieldLink RX2 15 "PencilWorks$Grades" "least" "[I", .fieldLink RX2 18 "PencilWorks$Grades" "worth" "[I", .fieldLink RX2 21 "PencilWorks$Grades" "room" "[I", .fieldLink RX2 24 "PencilWorks$Grades" "free" "[I"] ++ wsX20)
def wsX2_putSlats : List Cond := .code yX2_putSlats cX2_putSlats 3 (some .int) :: ([.fieldLink RX2 27 "PencilWorks$Grades" "slatsInAll" "I", .fieldLink RX2 9 "PencilWorks$Grades" "slatsOf" "[I"] ++ wsX20)
def wsX2_add : List Cond := .code yX2_add cX2_add 5 (some .int) :: ([.fieldLink RX2 31 "PencilWorks$Grades" "number" "I", .fieldLink RX2 18 "PencilWorks$Grades" "worth" "[I", .fieldLink RX2 15 "PencilWorks$Grades" "least" "[I", .fieldLink RX2 21 "PencilWorks$Grades" "room" "[I"] ++ wsX20)
def wsX2_fill : List Cond := .code yX2_fill cX2_fill 5 (some .int) :: ([.fieldLink RX2 15 "PencilWorks$Grades" "least" "[I", .fieldLink RX2 24 "PencilWorks$Grades" "free" "[I", .fieldLink RX2 21 "PencilWorks$Grades" "room" "[I", .methodLink RX2 38 Lib.Math.min.name, .static Lib.Math.min.name, .initialized "java/lang/Math", .code Lib.Math.min.name Lib.Math.min.code 2 (some .int)] ++ wsX20)
def wsX2_greatestWorth : List Cond := .code yX2_greatestWorth cX2_greatestWorth 3 (some .int) :: ([.fieldLink RX2 24 "PencilWorks$Grades" "free" "[I", .fieldLink RX2 9 "PencilWorks$Grades" "slatsOf" "[I", .fieldLink RX2 31 "PencilWorks$Grades" "number" "I", .fieldLink RX2 18 "PencilWorks$Grades" "worth" "[I", .methodLink RX2 34 yX2_fill, .instanceMethod yX2_fill, .selects RX2 yX2_fill yX2_fill, .initialized RX2, .code yX2_fill cX2_fill 5 (some .int), .fieldLink RX2 15 "PencilWorks$Grades" "least" "[I", .fieldLink RX2 21 "PencilWorks$Grades" "room" "[I", .methodLink RX2 38 Lib.Math.min.name, .static Lib.Math.min.name, .initialized "java/lang/Math", .code Lib.Math.min.name Lib.Math.min.code 2 (some .int)] ++ wsX20)
def wsX3_init : List Cond := .code yX3_init cX3_init 1 none :: ([.methodLink RX3 3 objectInit, .instanceMethod objectInit, .code objectInit ⟨#[0xb1]⟩ 1 none, .arrayClass .int, .fieldLink RX3 9 "PencilWorks$Lots" "kind" "[I", .fieldLink RX3 15 "PencilWorks$Lots" "pieces" "[I", .fieldLink RX3 18 "PencilWorks$Lots" "used" "[I", .fieldLink RX3 21 "PencilWorks$Lots" "low" "[I", .fieldLink RX3 24 "PencilWorks$Lots" "high" "[I", .fieldLink RX3 27 "PencilWorks$Lots" "lotsOfBatch" "[I"] ++ wsX30)
def wsX3_add : List Cond := .code yX3_add cX3_add 6 (some .int) :: ([.fieldLink RX3 30 "PencilWorks$Lots" "number" "I", .fieldLink RX3 9 "PencilWorks$Lots" "kind" "[I", .fieldLink RX3 15 "PencilWorks$Lots" "pieces" "[I", .fieldLink RX3 21 "PencilWorks$Lots" "low" "[I", .fieldLink RX3 24 "PencilWorks$Lots" "high" "[I"] ++ wsX30)
def wsX3_areOfTheirKinds : List Cond := .code yX3_areOfTheirKinds cX3_areOfTheirKinds 4 (some .boolean) :: ([.fieldLink RX3 9 "PencilWorks$Lots" "kind" "[I"] ++ wsX30)
def wsX3_haveAll : List Cond := .code yX3_haveAll cX3_haveAll 5 (some .boolean) :: ([.fieldLink RX3 15 "PencilWorks$Lots" "pieces" "[I"] ++ wsX30)
def wsX3_use : List Cond := .code yX3_use cX3_use 3 none :: ([.fieldLink RX3 15 "PencilWorks$Lots" "pieces" "[I", .fieldLink RX3 18 "PencilWorks$Lots" "used" "[I"] ++ wsX30)
def wsX3_addBatch : List Cond := .code yX3_addBatch cX3_addBatch 6 (some .int) :: ([.fieldLink RX3 38 "PencilWorks$Lots" "pencils" "I", .fieldLink RX3 41 "PencilWorks$Lots" "batches" "I", .fieldLink RX3 27 "PencilWorks$Lots" "lotsOfBatch" "[I", .methodLink RX3 34 yX3_use, .instanceMethod yX3_use, .selects RX3 yX3_use yX3_use, .initialized RX3, .code yX3_use cX3_use 3 none, .fieldLink RX3 15 "PencilWorks$Lots" "pieces" "[I", .fieldLink RX3 18 "PencilWorks$Lots" "used" "[I"] ++ wsX30)
def wsX3_batchesOf : List Cond := .code yX3_batchesOf cX3_batchesOf 6 (some .int) :: ([.fieldLink RX3 41 "PencilWorks$Lots" "batches" "I", .fieldLink RX3 27 "PencilWorks$Lots" "lotsOfBatch" "[I"] ++ wsX30)
def wsX4_init : List Cond := .code yX4_init cX4_init 1 none :: ([.methodLink RX4 3 objectInit, .instanceMethod objectInit, .code objectInit ⟨#[0xb1]⟩ 1 none, .arrayClass .int, .fieldLink RX4 9 "PencilWorks$Machine" "costs" "[I", .fieldLink RX4 15 "PencilWorks$Machine" "colour" "I", .fieldLink RX4 19 "PencilWorks$Machine" "jobsOf" "[I", .fieldLink RX4 22 "PencilWorks$Machine" "weight" "[I", .fieldLink RX4 25 "PencilWorks$Machine" "left" "[I", .fieldLink RX4 28 "PencilWorks$Machine" "leastCost" "[I"] ++ wsX40)
def wsX4_add : List Cond := .code yX4_add cX4_add 2 (some .int) :: ([.fieldLink RX4 19 "PencilWorks$Machine" "jobsOf" "[I", .fieldLink RX4 31 "PencilWorks$Machine" "jobs" "I"] ++ wsX40)
def wsX4_setWeights : List Cond := .code yX4_setWeights cX4_setWeights 3 (some .int) :: ([.fieldLink RX4 22 "PencilWorks$Machine" "weight" "[I", .fieldLink RX4 19 "PencilWorks$Machine" "jobsOf" "[I", .methodLink RX4 57 Lib.Math.min.name, .static Lib.Math.min.name, .initialized "java/lang/Math", .code Lib.Math.min.name Lib.Math.min.code 2 (some .int)] ++ wsX40)
def wsX4_setLeft : List Cond := .code yX4_setLeft cX4_setLeft 5 none :: ([.fieldLink RX4 19 "PencilWorks$Machine" "jobsOf" "[I", .fieldLink RX4 22 "PencilWorks$Machine" "weight" "[I", .fieldLink RX4 25 "PencilWorks$Machine" "left" "[I"] ++ wsX40)
def wsX4_costThrough : List Cond := .code yX4_costThrough cX4_costThrough 4 (some .int) :: ([.fieldLink RX4 9 "PencilWorks$Machine" "costs" "[I", .fieldLink RX4 28 "PencilWorks$Machine" "leastCost" "[I", .fieldLink RX4 22 "PencilWorks$Machine" "weight" "[I"] ++ wsX40)
def wsX4_bestNext : List Cond := .code yX4_bestNext cX4_bestNext 7 (some .int) :: ([.fieldLink RX4 25 "PencilWorks$Machine" "left" "[I", .methodLink RX4 46 yX4_costThrough, .instanceMethod yX4_costThrough, .selects RX4 yX4_costThrough yX4_costThrough, .initialized RX4, .code yX4_costThrough cX4_costThrough 4 (some .int), .fieldLink RX4 9 "PencilWorks$Machine" "costs" "[I", .fieldLink RX4 28 "PencilWorks$Machine" "leastCost" "[I", .fieldLink RX4 22 "PencilWorks$Machine" "weight" "[I"] ++ wsX40)
def wsX4_walkBestOrder : List Cond := .code yX4_walkBestOrder cX4_walkBestOrder 7 (some .int) :: ([.fieldLink RX4 31 "PencilWorks$Machine" "jobs" "I", .fieldLink RX4 15 "PencilWorks$Machine" "colour" "I", .fieldLink RX4 9 "PencilWorks$Machine" "costs" "[I", .fieldLink RX4 22 "PencilWorks$Machine" "weight" "[I", .methodLink RX4 38 yX4_setLeft, .instanceMethod yX4_setLeft, .selects RX4 yX4_setLeft yX4_setLeft, .initialized RX4, .code yX4_setLeft cX4_setLeft 5 none, .fieldLink RX4 19 "PencilWorks$Machine" "jobsOf" "[I", .fieldLink RX4 25 "PencilWorks$Machine" "left" "[I", .methodLink RX4 42 yX4_bestNext, .instanceMethod yX4_bestNext, .selects RX4 yX4_bestNext yX4_bestNext, .code yX4_bestNext cX4_bestNext 7 (some .int), .methodLink RX4 46 yX4_costThrough, .instanceMethod yX4_costThrough, .selects RX4 yX4_costThrough yX4_costThrough, .code yX4_costThrough cX4_costThrough 4 (some .int), .fieldLink RX4 28 "PencilWorks$Machine" "leastCost" "[I"] ++ wsX40)
def wsX4_clearJobs : List Cond := .code yX4_clearJobs cX4_clearJobs 2 none :: ([.fieldLink RX4 31 "PencilWorks$Machine" "jobs" "I", .fieldLink RX4 19 "PencilWorks$Machine" "jobsOf" "[I"] ++ wsX40)
def wsX4_runJobs_r1 : List Cond := [Cond.fieldLink RX4 28 "PencilWorks$Machine" "leastCost" "[I", Cond.methodLink RX4 34 yX4_setWeights, Cond.instanceMethod yX4_setWeights, Cond.selects RX4 yX4_setWeights yX4_setWeights, Cond.initialized RX4, Cond.code yX4_setWeights cX4_setWeights 3 (some .int), Cond.fieldLink RX4 22 "PencilWorks$Machine" "weight" "[I", Cond.fieldLink RX4 19 "PencilWorks$Machine" "jobsOf" "[I", Cond.methodLink RX4 57 Lib.Math.min.name, Cond.static Lib.Math.min.name, Cond.initialized "java/lang/Math", Cond.code Lib.Math.min.name Lib.Math.min.code 2 (some .int), Cond.methodLink RX4 38 yX4_setLeft, Cond.instanceMethod yX4_setLeft, Cond.selects RX4 yX4_setLeft yX4_setLeft, Cond.code yX4_setLeft cX4_setLeft 5 none, Cond.fieldLink RX4 25 "PencilWorks$Machine" "left" "[I", Cond.methodLink RX4 42 yX4_bestNext, Cond.instanceMethod yX4_bestNext, Cond.selects RX4 yX4_bestNext yX4_bestNext, Cond.code yX4_bestNext cX4_bestNext 7 (some .int), Cond.methodLink RX4 46 yX4_costThrough, Cond.instanceMethod yX4_costThrough, Cond.selects RX4 yX4_costThrough yX4_costThrough]
def wsX4_runJobs_r2 : List Cond := [Cond.code yX4_costThrough cX4_costThrough 4 (some .int), Cond.fieldLink RX4 9 "PencilWorks$Machine" "costs" "[I", Cond.methodLink RX4 50 yX4_walkBestOrder, Cond.instanceMethod yX4_walkBestOrder, Cond.selects RX4 yX4_walkBestOrder yX4_walkBestOrder, Cond.code yX4_walkBestOrder cX4_walkBestOrder 7 (some .int), Cond.fieldLink RX4 31 "PencilWorks$Machine" "jobs" "I", Cond.fieldLink RX4 15 "PencilWorks$Machine" "colour" "I", Cond.methodLink RX4 54 yX4_clearJobs, Cond.instanceMethod yX4_clearJobs, Cond.selects RX4 yX4_clearJobs yX4_clearJobs, Cond.code yX4_clearJobs cX4_clearJobs 2 none]
def wsX4_runJobs : List Cond := .code yX4_runJobs cX4_runJobs 4 (some .int) :: ((wsX4_runJobs_r1 ++ wsX4_runJobs_r2) ++ wsX40)
def wsX5_init : List Cond := .code yX5_init cX5_init 1 none :: ([.methodLink RX5 3 objectInit, .instanceMethod objectInit, .code objectInit ⟨#[0xb1]⟩ 1 none, .arrayClass .int, .fieldLink RX5 9 "PencilWorks$Trials" "batch" "[I", .arrayClass .boolean, .fieldLink RX5 15 "PencilWorks$Trials" "broke" "[Z", .fieldLink RX5 19 "PencilWorks$Trials" "told" "[I", .fieldLink RX5 22 "PencilWorks$Trials" "takenBack" "[I"] ++ wsX50)
def wsX5_add : List Cond := .code yX5_add cX5_add 4 (some .int) :: ([.fieldLink RX5 25 "PencilWorks$Trials" "number" "I", .fieldLink RX5 9 "PencilWorks$Trials" "batch" "[I", .fieldLink RX5 15 "PencilWorks$Trials" "broke" "[Z", .fieldLink RX5 19 "PencilWorks$Trials" "told" "[I", .fieldLink RX5 29 "PencilWorks$Trials" "today" "I", .fieldLink RX5 22 "PencilWorks$Trials" "takenBack" "[I"] ++ wsX50)
def wsX5_takeBack : List Cond := .code yX5_takeBack cX5_takeBack 2 (some .boolean) :: ([.fieldLink RX5 22 "PencilWorks$Trials" "takenBack" "[I", .fieldLink RX5 29 "PencilWorks$Trials" "today" "I"] ++ wsX50)
def wsX5_isKnown : List Cond := .code yX5_isKnown cX5_isKnown 3 (some .boolean) :: ([.fieldLink RX5 19 "PencilWorks$Trials" "told" "[I", .fieldLink RX5 22 "PencilWorks$Trials" "takenBack" "[I"] ++ wsX50)
def wsX5_batchesThat : List Cond := .code yX5_batchesThat cX5_batchesThat 6 (some .long) :: ([.fieldLink RX5 25 "PencilWorks$Trials" "number" "I", .fieldLink RX5 15 "PencilWorks$Trials" "broke" "[Z", .fieldLink RX5 9 "PencilWorks$Trials" "batch" "[I", .methodLink RX5 32 yX5_isKnown, .instanceMethod yX5_isKnown, .selects RX5 yX5_isKnown yX5_isKnown, .initialized RX5, .code yX5_isKnown cX5_isKnown 3 (some .boolean), .fieldLink RX5 19 "PencilWorks$Trials" "told" "[I", .fieldLink RX5 22 "PencilWorks$Trials" "takenBack" "[I"] ++ wsX50)
def wsX6_init_r1 : List Cond := [Cond.methodLink RX6 1 objectInit, Cond.instanceMethod objectInit, Cond.code objectInit ⟨#[0xb1]⟩ 1 none, Cond.classLink RX6 7 RX1, Cond.instantiable RX1 16, Cond.initialized RX1, Cond.fieldLink RX6 10 "PencilWorks" "earths" "LPencilWorks$Earths;", Cond.classLink RX6 16 RX3, Cond.instantiable RX3 9, Cond.initialized RX3, Cond.fieldLink RX6 19 "PencilWorks" "lots" "LPencilWorks$Lots;", Cond.classLink RX6 23 RX5, Cond.instantiable RX5 6, Cond.initialized RX5, Cond.fieldLink RX6 26 "PencilWorks" "trials" "LPencilWorks$Trials;", Cond.classLink RX6 30 RX0, Cond.instantiable RX0 5, Cond.initialized RX0, Cond.fieldLink RX6 33 "PencilWorks" "blame" "LPencilWorks$Blame;", Cond.classLink RX6 37 RX2, Cond.instantiable RX2 7, Cond.initialized RX2, Cond.fieldLink RX6 40 "PencilWorks" "grades" "LPencilWorks$Grades;", Cond.classLink RX6 44 RX4]
def wsX6_init_r2 : List Cond := [Cond.instantiable RX4 7, Cond.initialized RX4, Cond.fieldLink RX6 47 "PencilWorks" "machine" "LPencilWorks$Machine;", Cond.instanceMethod yX1_init, Cond.code yX1_init cX1_init 1 none, Cond.methodLink RX1 3 objectInit, Cond.arrayClass .int, Cond.fieldLink RX1 9 "PencilWorks$Earths" "low" "[I", Cond.fieldLink RX1 15 "PencilWorks$Earths" "high" "[I", Cond.fieldLink RX1 18 "PencilWorks$Earths" "price" "[I", Cond.fieldLink RX1 21 "PencilWorks$Earths" "has" "[I", Cond.fieldLink RX1 24 "PencilWorks$Earths" "best" "[I", Cond.fieldLink RX1 27 "PencilWorks$Earths" "bestPrice" "I", Cond.fieldLink RX1 31 "PencilWorks$Earths" "chosen" "[I", Cond.fieldLink RX1 34 "PencilWorks$Earths" "partsFrom" "[I", Cond.fieldLink RX1 37 "PencilWorks$Earths" "leastPriceFrom" "[I", Cond.fieldLink RX1 40 "PencilWorks$Earths" "mostLowFrom" "[I", Cond.fieldLink RX1 43 "PencilWorks$Earths" "leastHighFrom" "[I", Cond.instanceMethod yX3_init, Cond.code yX3_init cX3_init 1 none, Cond.methodLink RX3 3 objectInit, Cond.fieldLink RX3 9 "PencilWorks$Lots" "kind" "[I", Cond.fieldLink RX3 15 "PencilWorks$Lots" "pieces" "[I", Cond.fieldLink RX3 18 "PencilWorks$Lots" "used" "[I"]
def wsX6_init_r3 : List Cond := [Cond.fieldLink RX3 21 "PencilWorks$Lots" "low" "[I", Cond.fieldLink RX3 24 "PencilWorks$Lots" "high" "[I", Cond.fieldLink RX3 27 "PencilWorks$Lots" "lotsOfBatch" "[I", Cond.instanceMethod yX5_init, Cond.code yX5_init cX5_init 1 none, Cond.methodLink RX5 3 objectInit, Cond.fieldLink RX5 9 "PencilWorks$Trials" "batch" "[I", Cond.arrayClass .boolean, Cond.fieldLink RX5 15 "PencilWorks$Trials" "broke" "[Z", Cond.fieldLink RX5 19 "PencilWorks$Trials" "told" "[I", Cond.fieldLink RX5 22 "PencilWorks$Trials" "takenBack" "[I", Cond.instanceMethod yX0_init, Cond.code yX0_init cX0_init 1 none, Cond.methodLink RX0 3 objectInit, Cond.fieldLink RX0 9 "PencilWorks$Blame" "suspects" "[I", Cond.instanceMethod yX2_init, Cond.code yX2_init cX2_init 1 none, Cond.methodLink RX2 3 objectInit, Cond.fieldLink RX2 9 "PencilWorks$Grades" "slatsOf" "[I", Cond.fieldLink RX2 15 "PencilWorks$Grades" "least" "[I", Cond.fieldLink RX2 18 "PencilWorks$Grades" "worth" "[I", Cond.fieldLink RX2 21 "PencilWorks$Grades" "room" "[I", Cond.fieldLink RX2 24 "PencilWorks$Grades" "free" "[I", Cond.instanceMethod yX4_init]
def wsX6_init_r4 : List Cond := [Cond.code yX4_init cX4_init 1 none, Cond.methodLink RX4 3 objectInit, Cond.fieldLink RX4 9 "PencilWorks$Machine" "costs" "[I", Cond.fieldLink RX4 15 "PencilWorks$Machine" "colour" "I", Cond.fieldLink RX4 19 "PencilWorks$Machine" "jobsOf" "[I", Cond.fieldLink RX4 22 "PencilWorks$Machine" "weight" "[I", Cond.fieldLink RX4 25 "PencilWorks$Machine" "left" "[I", Cond.fieldLink RX4 28 "PencilWorks$Machine" "leastCost" "[I"]
def wsX6_init : List Cond := .code yX6_init cX6_init 1 none :: ((wsX6_init_r1 ++ (wsX6_init_r2 ++ (wsX6_init_r3 ++ wsX6_init_r4))) ++ wsX10 ++ wsX60 ++ wsX30 ++ wsX50 ++ wsX00 ++ wsX20 ++ wsX40)
def wsX6_isSpan : List Cond := .code yX6_isSpan cX6_isSpan 2 (some .boolean) :: ([])
def wsX6_isWithin : List Cond := .code yX6_isWithin cX6_isWithin 3 (some .boolean) :: ([])
def wsX6_earth : List Cond := .code yX6_earth cX6_earth 5 (some .int) :: ([.classLink RX6 59 "java/lang/IllegalArgumentException", .initialized "java/lang/IllegalArgumentException", .classLink RX6 70 "java/lang/UnsupportedOperationException", .initialized "java/lang/UnsupportedOperationException", .fieldLink RX6 10 "PencilWorks" "earths" "LPencilWorks$Earths;", .fieldLink RX6 66 "PencilWorks$Earths" "number" "I", .methodLink RX6 51 yX6_isSpan, .static yX6_isSpan, .initialized RX6, .code yX6_isSpan cX6_isSpan 2 (some .boolean), .methodLink RX6 55 yX6_isWithin, .static yX6_isWithin, .code yX6_isWithin cX6_isWithin 3 (some .boolean), .methodLink RX6 75 yX1_add, .instanceMethod yX1_add, .selects RX1 yX1_add yX1_add, .initialized RX1, .code yX1_add cX1_add 6 (some .int), .fieldLink RX1 46 "PencilWorks$Earths" "number" "I", .fieldLink RX1 9 "PencilWorks$Earths" "low" "[I", .fieldLink RX1 15 "PencilWorks$Earths" "high" "[I", .fieldLink RX1 18 "PencilWorks$Earths" "price" "[I", .fieldLink RX1 21 "PencilWorks$Earths" "has" "[I"] ++ wsX60 ++ wsX10 ++ (vx_atS RX6 63 "java/lang/IllegalArgumentException" ["java/lang/RuntimeException", "java/lang/Exception"]).filter goodWord ++ (vx_atS RX6 74 "java/lang/UnsupportedOperationException" ["java/lang/RuntimeException", "java/lang/Exception"]).filter goodWord)
def wsX6_isNumberOf : List Cond := .code yX6_isNumberOf cX6_isNumberOf 2 (some .boolean) :: ([])
def wsX6_bring : List Cond := .code yX6_bring cX6_bring 3 (some .int) :: ([.classLink RX6 82 "java/lang/IndexOutOfBoundsException", .initialized "java/lang/IndexOutOfBoundsException", .classLink RX6 59 "java/lang/IllegalArgumentException", .initialized "java/lang/IllegalArgumentException", .fieldLink RX6 10 "PencilWorks" "earths" "LPencilWorks$Earths;", .fieldLink RX6 66 "PencilWorks$Earths" "number" "I", .fieldLink RX6 87 "PencilWorks$Earths" "has" "[I", .methodLink RX6 79 yX6_isNumberOf, .static yX6_isNumberOf, .initialized RX6, .code yX6_isNumberOf cX6_isNumberOf 2 (some .boolean), .methodLink RX6 55 yX6_isWithin, .static yX6_isWithin, .code yX6_isWithin cX6_isWithin 3 (some .boolean)] ++ wsX60 ++ wsX10 ++ (vx_atS RX6 86 "java/lang/IndexOutOfBoundsException" ["java/lang/RuntimeException", "java/lang/Exception"]).filter goodWord ++ (vx_atS RX6 63 "java/lang/IllegalArgumentException" ["java/lang/RuntimeException", "java/lang/Exception"]).filter goodWord)
def wsX6_blend_r1 : List Cond := [Cond.classLink RX6 59 "java/lang/IllegalArgumentException", Cond.initialized "java/lang/IllegalArgumentException", Cond.fieldLink RX6 10 "PencilWorks" "earths" "LPencilWorks$Earths;", Cond.fieldLink RX6 99 "PencilWorks$Earths" "bestPrice" "I", Cond.methodLink RX6 51 yX6_isSpan, Cond.static yX6_isSpan, Cond.initialized RX6, Cond.code yX6_isSpan cX6_isSpan 2 (some .boolean), Cond.methodLink RX6 95 yX1_seek, Cond.instanceMethod yX1_seek, Cond.selects RX1 yX1_seek yX1_seek, Cond.initialized RX1, Cond.code yX1_seek cX1_seek 3 none, Cond.fieldLink RX1 27 "PencilWorks$Earths" "bestPrice" "I", Cond.fieldLink RX1 49 "PencilWorks$Earths" "leastLows" "I", Cond.fieldLink RX1 52 "PencilWorks$Earths" "mostHighs" "I", Cond.methodLink RX1 55 yX1_setBounds, Cond.instanceMethod yX1_setBounds, Cond.selects RX1 yX1_setBounds yX1_setBounds, Cond.code yX1_setBounds cX1_setBounds 2 none, Cond.fieldLink RX1 34 "PencilWorks$Earths" "partsFrom" "[I", Cond.fieldLink RX1 46 "PencilWorks$Earths" "number" "I", Cond.fieldLink RX1 37 "PencilWorks$Earths" "leastPriceFrom" "[I", Cond.fieldLink RX1 40 "PencilWorks$Earths" "mostLowFrom" "[I"]
def wsX6_blend_r2 : List Cond := [Cond.fieldLink RX1 43 "PencilWorks$Earths" "leastHighFrom" "[I", Cond.fieldLink RX1 21 "PencilWorks$Earths" "has" "[I", Cond.fieldLink RX1 18 "PencilWorks$Earths" "price" "[I", Cond.methodLink RX1 62 Lib.Math.min.name, Cond.static Lib.Math.min.name, Cond.initialized "java/lang/Math", Cond.code Lib.Math.min.name Lib.Math.min.code 2 (some .int), Cond.fieldLink RX1 9 "PencilWorks$Earths" "low" "[I", Cond.methodLink RX1 68 Lib.Math.max.name, Cond.static Lib.Math.max.name, Cond.code Lib.Math.max.name Lib.Math.max.code 2 (some .int), Cond.fieldLink RX1 15 "PencilWorks$Earths" "high" "[I", Cond.methodLink RX1 58 yX1_choose, Cond.instanceMethod yX1_choose, Cond.selects RX1 yX1_choose yX1_choose, Cond.code yX1_choose cX1_choose 6 none, Cond.methodLink RX1 71 yX1_mayBeBetter, Cond.instanceMethod yX1_mayBeBetter, Cond.selects RX1 yX1_mayBeBetter yX1_mayBeBetter, Cond.code yX1_mayBeBetter cX1_mayBeBetter 6 (some .boolean), Cond.methodLink RX1 75 yX1_keep, Cond.instanceMethod yX1_keep, Cond.selects RX1 yX1_keep yX1_keep, Cond.code yX1_keep cX1_keep 5 none]
def wsX6_blend_r3 : List Cond := [Cond.fieldLink RX1 82 "PencilWorks$Earths" "bestLow" "I", Cond.fieldLink RX1 85 "PencilWorks$Earths" "bestHigh" "I", Cond.fieldLink RX1 24 "PencilWorks$Earths" "best" "[I", Cond.fieldLink RX1 31 "PencilWorks$Earths" "chosen" "[I", Cond.methodLink RX1 79 yX1_chooseParts, Cond.instanceMethod yX1_chooseParts, Cond.selects RX1 yX1_chooseParts yX1_chooseParts, Cond.code yX1_chooseParts cX1_chooseParts 8 none]
def wsX6_blend : List Cond := .code yX6_blend cX6_blend 3 (some .int) :: ((wsX6_blend_r1 ++ (wsX6_blend_r2 ++ wsX6_blend_r3)) ++ wsX60 ++ wsX10 ++ (vx_atS RX6 63 "java/lang/IllegalArgumentException" ["java/lang/RuntimeException", "java/lang/Exception"]).filter goodWord)
def wsX6_parts_r1 : List Cond := [Cond.classLink RX6 82 "java/lang/IndexOutOfBoundsException", Cond.initialized "java/lang/IndexOutOfBoundsException", Cond.classLink RX6 59 "java/lang/IllegalArgumentException", Cond.initialized "java/lang/IllegalArgumentException", Cond.fieldLink RX6 10 "PencilWorks" "earths" "LPencilWorks$Earths;", Cond.fieldLink RX6 66 "PencilWorks$Earths" "number" "I", Cond.fieldLink RX6 99 "PencilWorks$Earths" "bestPrice" "I", Cond.fieldLink RX6 102 "PencilWorks$Earths" "best" "[I", Cond.methodLink RX6 79 yX6_isNumberOf, Cond.static yX6_isNumberOf, Cond.initialized RX6, Cond.code yX6_isNumberOf cX6_isNumberOf 2 (some .boolean), Cond.methodLink RX6 51 yX6_isSpan, Cond.static yX6_isSpan, Cond.code yX6_isSpan cX6_isSpan 2 (some .boolean), Cond.methodLink RX6 95 yX1_seek, Cond.instanceMethod yX1_seek, Cond.selects RX1 yX1_seek yX1_seek, Cond.initialized RX1, Cond.code yX1_seek cX1_seek 3 none, Cond.fieldLink RX1 27 "PencilWorks$Earths" "bestPrice" "I", Cond.fieldLink RX1 49 "PencilWorks$Earths" "leastLows" "I", Cond.fieldLink RX1 52 "PencilWorks$Earths" "mostHighs" "I", Cond.methodLink RX1 55 yX1_setBounds]
def wsX6_parts_r2 : List Cond := [Cond.instanceMethod yX1_setBounds, Cond.selects RX1 yX1_setBounds yX1_setBounds, Cond.code yX1_setBounds cX1_setBounds 2 none, Cond.fieldLink RX1 34 "PencilWorks$Earths" "partsFrom" "[I", Cond.fieldLink RX1 46 "PencilWorks$Earths" "number" "I", Cond.fieldLink RX1 37 "PencilWorks$Earths" "leastPriceFrom" "[I", Cond.fieldLink RX1 40 "PencilWorks$Earths" "mostLowFrom" "[I", Cond.fieldLink RX1 43 "PencilWorks$Earths" "leastHighFrom" "[I", Cond.fieldLink RX1 21 "PencilWorks$Earths" "has" "[I", Cond.fieldLink RX1 18 "PencilWorks$Earths" "price" "[I", Cond.methodLink RX1 62 Lib.Math.min.name, Cond.static Lib.Math.min.name, Cond.initialized "java/lang/Math", Cond.code Lib.Math.min.name Lib.Math.min.code 2 (some .int), Cond.fieldLink RX1 9 "PencilWorks$Earths" "low" "[I", Cond.methodLink RX1 68 Lib.Math.max.name, Cond.static Lib.Math.max.name, Cond.code Lib.Math.max.name Lib.Math.max.code 2 (some .int), Cond.fieldLink RX1 15 "PencilWorks$Earths" "high" "[I", Cond.methodLink RX1 58 yX1_choose, Cond.instanceMethod yX1_choose, Cond.selects RX1 yX1_choose yX1_choose, Cond.code yX1_choose cX1_choose 6 none, Cond.methodLink RX1 71 yX1_mayBeBetter]
def wsX6_parts_r3 : List Cond := [Cond.instanceMethod yX1_mayBeBetter, Cond.selects RX1 yX1_mayBeBetter yX1_mayBeBetter, Cond.code yX1_mayBeBetter cX1_mayBeBetter 6 (some .boolean), Cond.methodLink RX1 75 yX1_keep, Cond.instanceMethod yX1_keep, Cond.selects RX1 yX1_keep yX1_keep, Cond.code yX1_keep cX1_keep 5 none, Cond.fieldLink RX1 82 "PencilWorks$Earths" "bestLow" "I", Cond.fieldLink RX1 85 "PencilWorks$Earths" "bestHigh" "I", Cond.fieldLink RX1 24 "PencilWorks$Earths" "best" "[I", Cond.fieldLink RX1 31 "PencilWorks$Earths" "chosen" "[I", Cond.methodLink RX1 79 yX1_chooseParts, Cond.instanceMethod yX1_chooseParts, Cond.selects RX1 yX1_chooseParts yX1_chooseParts, Cond.code yX1_chooseParts cX1_chooseParts 8 none]
def wsX6_parts : List Cond := .code yX6_parts cX6_parts 4 (some .int) :: ((wsX6_parts_r1 ++ (wsX6_parts_r2 ++ wsX6_parts_r3)) ++ wsX60 ++ wsX10 ++ (vx_atS RX6 86 "java/lang/IndexOutOfBoundsException" ["java/lang/RuntimeException", "java/lang/Exception"]).filter goodWord ++ (vx_atS RX6 63 "java/lang/IllegalArgumentException" ["java/lang/RuntimeException", "java/lang/Exception"]).filter goodWord)
def wsX6_cores_r1 : List Cond := [Cond.classLink RX6 59 "java/lang/IllegalArgumentException", Cond.initialized "java/lang/IllegalArgumentException", Cond.fieldLink RX6 19 "PencilWorks" "lots" "LPencilWorks$Lots;", Cond.fieldLink RX6 105 "PencilWorks$Lots" "number" "I", Cond.fieldLink RX6 10 "PencilWorks" "earths" "LPencilWorks$Earths;", Cond.fieldLink RX6 99 "PencilWorks$Earths" "bestPrice" "I", Cond.fieldLink RX6 109 "PencilWorks$Earths" "bestLow" "I", Cond.fieldLink RX6 112 "PencilWorks$Earths" "bestHigh" "I", Cond.methodLink RX6 51 yX6_isSpan, Cond.static yX6_isSpan, Cond.initialized RX6, Cond.code yX6_isSpan cX6_isSpan 2 (some .boolean), Cond.methodLink RX6 95 yX1_seek, Cond.instanceMethod yX1_seek, Cond.selects RX1 yX1_seek yX1_seek, Cond.initialized RX1, Cond.code yX1_seek cX1_seek 3 none, Cond.fieldLink RX1 27 "PencilWorks$Earths" "bestPrice" "I", Cond.fieldLink RX1 49 "PencilWorks$Earths" "leastLows" "I", Cond.fieldLink RX1 52 "PencilWorks$Earths" "mostHighs" "I", Cond.methodLink RX1 55 yX1_setBounds, Cond.instanceMethod yX1_setBounds, Cond.selects RX1 yX1_setBounds yX1_setBounds, Cond.code yX1_setBounds cX1_setBounds 2 none]
def wsX6_cores_r2 : List Cond := [Cond.fieldLink RX1 34 "PencilWorks$Earths" "partsFrom" "[I", Cond.fieldLink RX1 46 "PencilWorks$Earths" "number" "I", Cond.fieldLink RX1 37 "PencilWorks$Earths" "leastPriceFrom" "[I", Cond.fieldLink RX1 40 "PencilWorks$Earths" "mostLowFrom" "[I", Cond.fieldLink RX1 43 "PencilWorks$Earths" "leastHighFrom" "[I", Cond.fieldLink RX1 21 "PencilWorks$Earths" "has" "[I", Cond.fieldLink RX1 18 "PencilWorks$Earths" "price" "[I", Cond.methodLink RX1 62 Lib.Math.min.name, Cond.static Lib.Math.min.name, Cond.initialized "java/lang/Math", Cond.code Lib.Math.min.name Lib.Math.min.code 2 (some .int), Cond.fieldLink RX1 9 "PencilWorks$Earths" "low" "[I", Cond.methodLink RX1 68 Lib.Math.max.name, Cond.static Lib.Math.max.name, Cond.code Lib.Math.max.name Lib.Math.max.code 2 (some .int), Cond.fieldLink RX1 15 "PencilWorks$Earths" "high" "[I", Cond.methodLink RX1 58 yX1_choose, Cond.instanceMethod yX1_choose, Cond.selects RX1 yX1_choose yX1_choose, Cond.code yX1_choose cX1_choose 6 none, Cond.methodLink RX1 71 yX1_mayBeBetter, Cond.instanceMethod yX1_mayBeBetter, Cond.selects RX1 yX1_mayBeBetter yX1_mayBeBetter, Cond.code yX1_mayBeBetter cX1_mayBeBetter 6 (some .boolean)]
def wsX6_cores_r3 : List Cond := [Cond.methodLink RX1 75 yX1_keep, Cond.instanceMethod yX1_keep, Cond.selects RX1 yX1_keep yX1_keep, Cond.code yX1_keep cX1_keep 5 none, Cond.fieldLink RX1 82 "PencilWorks$Earths" "bestLow" "I", Cond.fieldLink RX1 85 "PencilWorks$Earths" "bestHigh" "I", Cond.fieldLink RX1 24 "PencilWorks$Earths" "best" "[I", Cond.fieldLink RX1 31 "PencilWorks$Earths" "chosen" "[I", Cond.methodLink RX1 79 yX1_chooseParts, Cond.instanceMethod yX1_chooseParts, Cond.selects RX1 yX1_chooseParts yX1_chooseParts, Cond.code yX1_chooseParts cX1_chooseParts 8 none, Cond.methodLink RX6 106 yX1_takeBest, Cond.instanceMethod yX1_takeBest, Cond.selects RX1 yX1_takeBest yX1_takeBest, Cond.code yX1_takeBest cX1_takeBest 2 none, Cond.methodLink RX6 115 yX3_add, Cond.instanceMethod yX3_add, Cond.selects RX3 yX3_add yX3_add, Cond.initialized RX3, Cond.code yX3_add cX3_add 6 (some .int), Cond.fieldLink RX3 30 "PencilWorks$Lots" "number" "I", Cond.fieldLink RX3 9 "PencilWorks$Lots" "kind" "[I", Cond.fieldLink RX3 15 "PencilWorks$Lots" "pieces" "[I"]
def wsX6_cores_r4 : List Cond := [Cond.fieldLink RX3 21 "PencilWorks$Lots" "low" "[I", Cond.fieldLink RX3 24 "PencilWorks$Lots" "high" "[I"]
def wsX6_cores : List Cond := .code yX6_cores cX6_cores 3 (some .int) :: ((wsX6_cores_r1 ++ (wsX6_cores_r2 ++ (wsX6_cores_r3 ++ wsX6_cores_r4))) ++ wsX60 ++ wsX30 ++ wsX10 ++ (vx_atS RX6 63 "java/lang/IllegalArgumentException" ["java/lang/RuntimeException", "java/lang/Exception"]).filter goodWord)
def wsX6_lot : List Cond := .code yX6_lot cX6_lot 3 (some .int) :: ([.classLink RX6 59 "java/lang/IllegalArgumentException", .initialized "java/lang/IllegalArgumentException", .classLink RX6 70 "java/lang/UnsupportedOperationException", .initialized "java/lang/UnsupportedOperationException", .fieldLink RX6 19 "PencilWorks" "lots" "LPencilWorks$Lots;", .fieldLink RX6 105 "PencilWorks$Lots" "number" "I", .methodLink RX6 55 yX6_isWithin, .static yX6_isWithin, .initialized RX6, .code yX6_isWithin cX6_isWithin 3 (some .boolean), .methodLink RX6 115 yX3_add, .instanceMethod yX3_add, .selects RX3 yX3_add yX3_add, .initialized RX3, .code yX3_add cX3_add 6 (some .int), .fieldLink RX3 30 "PencilWorks$Lots" "number" "I", .fieldLink RX3 9 "PencilWorks$Lots" "kind" "[I", .fieldLink RX3 15 "PencilWorks$Lots" "pieces" "[I", .fieldLink RX3 21 "PencilWorks$Lots" "low" "[I", .fieldLink RX3 24 "PencilWorks$Lots" "high" "[I"] ++ wsX60 ++ wsX30 ++ (vx_atS RX6 63 "java/lang/IllegalArgumentException" ["java/lang/RuntimeException", "java/lang/Exception"]).filter goodWord ++ (vx_atS RX6 74 "java/lang/UnsupportedOperationException" ["java/lang/RuntimeException", "java/lang/Exception"]).filter goodWord)
def wsX6_make_r1 : List Cond := [Cond.classLink RX6 82 "java/lang/IndexOutOfBoundsException", Cond.initialized "java/lang/IndexOutOfBoundsException", Cond.classLink RX6 59 "java/lang/IllegalArgumentException", Cond.initialized "java/lang/IllegalArgumentException", Cond.fieldLink RX6 19 "PencilWorks" "lots" "LPencilWorks$Lots;", Cond.fieldLink RX6 105 "PencilWorks$Lots" "number" "I", Cond.fieldLink RX6 127 "PencilWorks$Lots" "batches" "I", Cond.methodLink RX6 79 yX6_isNumberOf, Cond.static yX6_isNumberOf, Cond.initialized RX6, Cond.code yX6_isNumberOf cX6_isNumberOf 2 (some .boolean), Cond.methodLink RX6 55 yX6_isWithin, Cond.static yX6_isWithin, Cond.code yX6_isWithin cX6_isWithin 3 (some .boolean), Cond.methodLink RX6 122 yX3_areOfTheirKinds, Cond.instanceMethod yX3_areOfTheirKinds, Cond.selects RX3 yX3_areOfTheirKinds yX3_areOfTheirKinds, Cond.initialized RX3, Cond.code yX3_areOfTheirKinds cX3_areOfTheirKinds 4 (some .boolean), Cond.fieldLink RX3 9 "PencilWorks$Lots" "kind" "[I", Cond.methodLink RX6 130 yX3_haveAll, Cond.instanceMethod yX3_haveAll, Cond.selects RX3 yX3_haveAll yX3_haveAll, Cond.code yX3_haveAll cX3_haveAll 5 (some .boolean)]
def wsX6_make_r2 : List Cond := [Cond.fieldLink RX3 15 "PencilWorks$Lots" "pieces" "[I", Cond.methodLink RX6 134 yX3_addBatch, Cond.instanceMethod yX3_addBatch, Cond.selects RX3 yX3_addBatch yX3_addBatch, Cond.code yX3_addBatch cX3_addBatch 6 (some .int), Cond.fieldLink RX3 38 "PencilWorks$Lots" "pencils" "I", Cond.fieldLink RX3 41 "PencilWorks$Lots" "batches" "I", Cond.fieldLink RX3 27 "PencilWorks$Lots" "lotsOfBatch" "[I", Cond.methodLink RX3 34 yX3_use, Cond.instanceMethod yX3_use, Cond.selects RX3 yX3_use yX3_use, Cond.code yX3_use cX3_use 3 none, Cond.fieldLink RX3 18 "PencilWorks$Lots" "used" "[I"]
def wsX6_make : List Cond := .code yX6_make cX6_make 5 (some .int) :: ((wsX6_make_r1 ++ wsX6_make_r2) ++ wsX60 ++ wsX30 ++ (vx_atS RX6 86 "java/lang/IndexOutOfBoundsException" ["java/lang/RuntimeException", "java/lang/Exception"]).filter goodWord ++ (vx_atS RX6 63 "java/lang/IllegalArgumentException" ["java/lang/RuntimeException", "java/lang/Exception"]).filter goodWord)
def wsX6_look_r1 : List Cond := [Cond.classLink RX6 82 "java/lang/IndexOutOfBoundsException", Cond.initialized "java/lang/IndexOutOfBoundsException", Cond.classLink RX6 163 "java/util/NoSuchElementException", Cond.initialized "java/util/NoSuchElementException", Cond.fieldLink RX6 19 "PencilWorks" "lots" "LPencilWorks$Lots;", Cond.fieldLink RX6 105 "PencilWorks$Lots" "number" "I", Cond.fieldLink RX6 137 "PencilWorks$Lots" "kind" "[I", Cond.fieldLink RX6 140 "PencilWorks$Lots" "pieces" "[I", Cond.fieldLink RX6 143 "PencilWorks$Lots" "used" "[I", Cond.fieldLink RX6 146 "PencilWorks$Lots" "low" "[I", Cond.fieldLink RX6 149 "PencilWorks$Lots" "high" "[I", Cond.fieldLink RX6 26 "PencilWorks" "trials" "LPencilWorks$Trials;", Cond.fieldLink RX6 152 "PencilWorks$Trials" "today" "I", Cond.methodLink RX6 79 yX6_isNumberOf, Cond.static yX6_isNumberOf, Cond.initialized RX6, Cond.code yX6_isNumberOf cX6_isNumberOf 2 (some .boolean), Cond.methodLink RX6 155 yX5_batchesThat, Cond.instanceMethod yX5_batchesThat, Cond.selects RX5 yX5_batchesThat yX5_batchesThat, Cond.initialized RX5, Cond.code yX5_batchesThat cX5_batchesThat 6 (some .long), Cond.fieldLink RX5 25 "PencilWorks$Trials" "number" "I", Cond.fieldLink RX5 15 "PencilWorks$Trials" "broke" "[Z"]
def wsX6_look_r2 : List Cond := [Cond.fieldLink RX5 9 "PencilWorks$Trials" "batch" "[I", Cond.methodLink RX5 32 yX5_isKnown, Cond.instanceMethod yX5_isKnown, Cond.selects RX5 yX5_isKnown yX5_isKnown, Cond.code yX5_isKnown cX5_isKnown 3 (some .boolean), Cond.fieldLink RX5 19 "PencilWorks$Trials" "told" "[I", Cond.fieldLink RX5 22 "PencilWorks$Trials" "takenBack" "[I", Cond.methodLink RX6 159 yX3_batchesOf, Cond.instanceMethod yX3_batchesOf, Cond.selects RX3 yX3_batchesOf yX3_batchesOf, Cond.initialized RX3, Cond.code yX3_batchesOf cX3_batchesOf 6 (some .int), Cond.fieldLink RX3 41 "PencilWorks$Lots" "batches" "I", Cond.fieldLink RX3 27 "PencilWorks$Lots" "lotsOfBatch" "[I"]
def wsX6_look : List Cond := .code yX6_look cX6_look 3 (some .int) :: ((wsX6_look_r1 ++ wsX6_look_r2) ++ wsX60 ++ wsX30 ++ wsX50 ++ (vx_atS RX6 86 "java/lang/IndexOutOfBoundsException" ["java/lang/RuntimeException", "java/lang/Exception"]).filter goodWord ++ (vx_atS RX6 167 "java/util/NoSuchElementException" ["java/lang/RuntimeException", "java/lang/Exception"]).filter goodWord)
def wsX6_trial : List Cond := .code yX6_trial cX6_trial 3 (some .int) :: ([.classLink RX6 82 "java/lang/IndexOutOfBoundsException", .initialized "java/lang/IndexOutOfBoundsException", .fieldLink RX6 19 "PencilWorks" "lots" "LPencilWorks$Lots;", .fieldLink RX6 127 "PencilWorks$Lots" "batches" "I", .fieldLink RX6 26 "PencilWorks" "trials" "LPencilWorks$Trials;", .fieldLink RX6 170 "PencilWorks$Trials" "number" "I", .methodLink RX6 79 yX6_isNumberOf, .static yX6_isNumberOf, .initialized RX6, .code yX6_isNumberOf cX6_isNumberOf 2 (some .boolean), .methodLink RX6 171 yX5_add, .instanceMethod yX5_add, .selects RX5 yX5_add yX5_add, .initialized RX5, .code yX5_add cX5_add 4 (some .int), .fieldLink RX5 25 "PencilWorks$Trials" "number" "I", .fieldLink RX5 9 "PencilWorks$Trials" "batch" "[I", .fieldLink RX5 15 "PencilWorks$Trials" "broke" "[Z", .fieldLink RX5 19 "PencilWorks$Trials" "told" "[I", .fieldLink RX5 29 "PencilWorks$Trials" "today" "I", .fieldLink RX5 22 "PencilWorks$Trials" "takenBack" "[I"] ++ wsX60 ++ wsX30 ++ wsX50 ++ (vx_atS RX6 86 "java/lang/IndexOutOfBoundsException" ["java/lang/RuntimeException", "java/lang/Exception"]).filter goodWord)
def wsX6_undo : List Cond := .code yX6_undo cX6_undo 2 (some .boolean) :: ([.classLink RX6 82 "java/lang/IndexOutOfBoundsException", .initialized "java/lang/IndexOutOfBoundsException", .fieldLink RX6 26 "PencilWorks" "trials" "LPencilWorks$Trials;", .fieldLink RX6 170 "PencilWorks$Trials" "number" "I", .methodLink RX6 79 yX6_isNumberOf, .static yX6_isNumberOf, .initialized RX6, .code yX6_isNumberOf cX6_isNumberOf 2 (some .boolean), .methodLink RX6 176 yX5_takeBack, .instanceMethod yX5_takeBack, .selects RX5 yX5_takeBack yX5_takeBack, .initialized RX5, .code yX5_takeBack cX5_takeBack 2 (some .boolean), .fieldLink RX5 22 "PencilWorks$Trials" "takenBack" "[I", .fieldLink RX5 29 "PencilWorks$Trials" "today" "I"] ++ wsX60 ++ wsX50 ++ (vx_atS RX6 86 "java/lang/IndexOutOfBoundsException" ["java/lang/RuntimeException", "java/lang/Exception"]).filter goodWord)
def wsX6_days : List Cond := .code yX6_days cX6_days 2 (some .int) :: ([.classLink RX6 59 "java/lang/IllegalArgumentException", .initialized "java/lang/IllegalArgumentException", .fieldLink RX6 26 "PencilWorks" "trials" "LPencilWorks$Trials;", .fieldLink RX6 152 "PencilWorks$Trials" "today" "I", .methodLink RX6 182 Lib.Math.min.name, .static Lib.Math.min.name, .initialized "java/lang/Math", .code Lib.Math.min.name Lib.Math.min.code 2 (some .int), .methodLink RX6 55 yX6_isWithin, .static yX6_isWithin, .initialized RX6, .code yX6_isWithin cX6_isWithin 3 (some .boolean)] ++ wsX60 ++ wsX50 ++ (vx_atS RX6 63 "java/lang/IllegalArgumentException" ["java/lang/RuntimeException", "java/lang/Exception"]).filter goodWord)
def wsX6_explain_r1 : List Cond := [Cond.classLink RX6 163 "java/util/NoSuchElementException", Cond.initialized "java/util/NoSuchElementException", Cond.fieldLink RX6 33 "PencilWorks" "blame" "LPencilWorks$Blame;", Cond.fieldLink RX6 19 "PencilWorks" "lots" "LPencilWorks$Lots;", Cond.fieldLink RX6 26 "PencilWorks" "trials" "LPencilWorks$Trials;", Cond.fieldLink RX6 191 "PencilWorks$Blame" "fewest" "I", Cond.fieldLink RX6 194 "PencilWorks$Blame" "ways" "I", Cond.fieldLink RX6 197 "PencilWorks$Blame" "sure" "I", Cond.methodLink RX6 55 yX6_isWithin, Cond.static yX6_isWithin, Cond.initialized RX6, Cond.code yX6_isWithin cX6_isWithin 3 (some .boolean), Cond.methodLink RX6 155 yX5_batchesThat, Cond.instanceMethod yX5_batchesThat, Cond.selects RX5 yX5_batchesThat yX5_batchesThat, Cond.initialized RX5, Cond.code yX5_batchesThat cX5_batchesThat 6 (some .long), Cond.fieldLink RX5 25 "PencilWorks$Trials" "number" "I", Cond.fieldLink RX5 15 "PencilWorks$Trials" "broke" "[Z", Cond.fieldLink RX5 9 "PencilWorks$Trials" "batch" "[I", Cond.methodLink RX5 32 yX5_isKnown, Cond.instanceMethod yX5_isKnown, Cond.selects RX5 yX5_isKnown yX5_isKnown, Cond.code yX5_isKnown cX5_isKnown 3 (some .boolean)]
def wsX6_explain_r2 : List Cond := [Cond.fieldLink RX5 19 "PencilWorks$Trials" "told" "[I", Cond.fieldLink RX5 22 "PencilWorks$Trials" "takenBack" "[I", Cond.methodLink RX6 188 yX0_seek, Cond.instanceMethod yX0_seek, Cond.selects RX0 yX0_seek yX0_seek, Cond.initialized RX0, Cond.code yX0_seek cX0_seek 6 none, Cond.fieldLink RX0 15 "PencilWorks$Blame" "fewest" "I", Cond.fieldLink RX0 19 "PencilWorks$Blame" "ways" "I", Cond.fieldLink RX0 22 "PencilWorks$Blame" "sure" "I", Cond.methodLink RX0 25 yX3_lotsOf, Cond.instanceMethod yX3_lotsOf, Cond.selects RX3 yX3_lotsOf yX3_lotsOf, Cond.initialized RX3, Cond.code yX3_lotsOf cX3_lotsOf 5 (some .int), Cond.fieldLink RX3 41 "PencilWorks$Lots" "batches" "I", Cond.fieldLink RX3 27 "PencilWorks$Lots" "lotsOfBatch" "[I", Cond.methodLink RX0 31 yX0_setSuspects, Cond.instanceMethod yX0_setSuspects, Cond.selects RX0 yX0_setSuspects yX0_setSuspects, Cond.code yX0_setSuspects cX0_setSuspects 6 none, Cond.fieldLink RX0 39 "PencilWorks$Blame" "broken" "I", Cond.fieldLink RX0 42 "PencilWorks$Lots" "batches" "I", Cond.fieldLink RX0 9 "PencilWorks$Blame" "suspects" "[I"]
def wsX6_explain_r3 : List Cond := [Cond.fieldLink RX0 45 "PencilWorks$Lots" "lotsOfBatch" "[I", Cond.methodLink RX0 35 yX0_blameMore, Cond.instanceMethod yX0_blameMore, Cond.selects RX0 yX0_blameMore yX0_blameMore, Cond.code yX0_blameMore cX0_blameMore 5 none, Cond.methodLink RX0 48 yX0_firstUnexplained, Cond.instanceMethod yX0_firstUnexplained, Cond.selects RX0 yX0_firstUnexplained yX0_firstUnexplained, Cond.code yX0_firstUnexplained cX0_firstUnexplained 3 (some .int), Cond.methodLink RX0 52 yX0_keep, Cond.instanceMethod yX0_keep, Cond.selects RX0 yX0_keep yX0_keep, Cond.code yX0_keep cX0_keep 3 none, Cond.methodLink RX0 56 yX0_blameEach, Cond.instanceMethod yX0_blameEach, Cond.selects RX0 yX0_blameEach yX0_blameEach, Cond.code yX0_blameEach cX0_blameEach 8 none]
def wsX6_explain : List Cond := .code yX6_explain cX6_explain 3 (some .int) :: ((wsX6_explain_r1 ++ (wsX6_explain_r2 ++ wsX6_explain_r3)) ++ wsX60 ++ wsX00 ++ wsX50 ++ wsX30 ++ (vx_atS RX6 167 "java/util/NoSuchElementException" ["java/lang/RuntimeException", "java/lang/Exception"]).filter goodWord)
def wsX6_slats : List Cond := .code yX6_slats cX6_slats 3 (some .int) :: ([.classLink RX6 59 "java/lang/IllegalArgumentException", .initialized "java/lang/IllegalArgumentException", .fieldLink RX6 40 "PencilWorks" "grades" "LPencilWorks$Grades;", .methodLink RX6 55 yX6_isWithin, .static yX6_isWithin, .initialized RX6, .code yX6_isWithin cX6_isWithin 3 (some .boolean), .methodLink RX6 202 yX2_putSlats, .instanceMethod yX2_putSlats, .selects RX2 yX2_putSlats yX2_putSlats, .initialized RX2, .code yX2_putSlats cX2_putSlats 3 (some .int), .fieldLink RX2 27 "PencilWorks$Grades" "slatsInAll" "I", .fieldLink RX2 9 "PencilWorks$Grades" "slatsOf" "[I"] ++ wsX60 ++ wsX20 ++ (vx_atS RX6 63 "java/lang/IllegalArgumentException" ["java/lang/RuntimeException", "java/lang/Exception"]).filter goodWord)
def wsX6_grade : List Cond := .code yX6_grade cX6_grade 4 (some .int) :: ([.classLink RX6 59 "java/lang/IllegalArgumentException", .initialized "java/lang/IllegalArgumentException", .fieldLink RX6 40 "PencilWorks" "grades" "LPencilWorks$Grades;", .fieldLink RX6 205 "PencilWorks$Grades" "number" "I", .methodLink RX6 55 yX6_isWithin, .static yX6_isWithin, .initialized RX6, .code yX6_isWithin cX6_isWithin 3 (some .boolean), .methodLink RX6 206 yX2_add, .instanceMethod yX2_add, .selects RX2 yX2_add yX2_add, .initialized RX2, .code yX2_add cX2_add 5 (some .int), .fieldLink RX2 31 "PencilWorks$Grades" "number" "I", .fieldLink RX2 18 "PencilWorks$Grades" "worth" "[I", .fieldLink RX2 15 "PencilWorks$Grades" "least" "[I", .fieldLink RX2 21 "PencilWorks$Grades" "room" "[I"] ++ wsX60 ++ wsX20 ++ (vx_atS RX6 63 "java/lang/IllegalArgumentException" ["java/lang/RuntimeException", "java/lang/Exception"]).filter goodWord)
def wsX6_ungrade : List Cond := .code yX6_ungrade cX6_ungrade 2 (some .int) :: ([.fieldLink RX6 40 "PencilWorks" "grades" "LPencilWorks$Grades;", .fieldLink RX6 205 "PencilWorks$Grades" "number" "I"] ++ wsX60 ++ wsX20)
def wsX6_most : List Cond := .code yX6_most cX6_most 1 (some .int) :: ([.fieldLink RX6 40 "PencilWorks" "grades" "LPencilWorks$Grades;", .methodLink RX6 209 yX2_greatestWorth, .instanceMethod yX2_greatestWorth, .selects RX2 yX2_greatestWorth yX2_greatestWorth, .initialized RX2, .code yX2_greatestWorth cX2_greatestWorth 3 (some .int), .fieldLink RX2 24 "PencilWorks$Grades" "free" "[I", .fieldLink RX2 9 "PencilWorks$Grades" "slatsOf" "[I", .fieldLink RX2 31 "PencilWorks$Grades" "number" "I", .fieldLink RX2 18 "PencilWorks$Grades" "worth" "[I", .methodLink RX2 34 yX2_fill, .instanceMethod yX2_fill, .selects RX2 yX2_fill yX2_fill, .code yX2_fill cX2_fill 5 (some .int), .fieldLink RX2 15 "PencilWorks$Grades" "least" "[I", .fieldLink RX2 21 "PencilWorks$Grades" "room" "[I", .methodLink RX2 38 Lib.Math.min.name, .static Lib.Math.min.name, .initialized "java/lang/Math", .code Lib.Math.min.name Lib.Math.min.code 2 (some .int)] ++ wsX60 ++ wsX20)
def wsX6_change : List Cond := .code yX6_change cX6_change 4 none :: ([.classLink RX6 82 "java/lang/IndexOutOfBoundsException", .initialized "java/lang/IndexOutOfBoundsException", .classLink RX6 59 "java/lang/IllegalArgumentException", .initialized "java/lang/IllegalArgumentException", .fieldLink RX6 47 "PencilWorks" "machine" "LPencilWorks$Machine;", .fieldLink RX6 217 "PencilWorks$Machine" "costs" "[I", .methodLink RX6 79 yX6_isNumberOf, .static yX6_isNumberOf, .initialized RX6, .code yX6_isNumberOf cX6_isNumberOf 2 (some .boolean), .methodLink RX6 55 yX6_isWithin, .static yX6_isWithin, .code yX6_isWithin cX6_isWithin 3 (some .boolean)] ++ wsX60 ++ wsX40 ++ (vx_atS RX6 86 "java/lang/IndexOutOfBoundsException" ["java/lang/RuntimeException", "java/lang/Exception"]).filter goodWord ++ (vx_atS RX6 63 "java/lang/IllegalArgumentException" ["java/lang/RuntimeException", "java/lang/Exception"]).filter goodWord)
def wsX6_job : List Cond := .code yX6_job cX6_job 2 (some .int) :: ([.classLink RX6 82 "java/lang/IndexOutOfBoundsException", .initialized "java/lang/IndexOutOfBoundsException", .fieldLink RX6 47 "PencilWorks" "machine" "LPencilWorks$Machine;", .fieldLink RX6 220 "PencilWorks$Machine" "jobs" "I", .methodLink RX6 79 yX6_isNumberOf, .static yX6_isNumberOf, .initialized RX6, .code yX6_isNumberOf cX6_isNumberOf 2 (some .boolean), .methodLink RX6 223 yX4_add, .instanceMethod yX4_add, .selects RX4 yX4_add yX4_add, .initialized RX4, .code yX4_add cX4_add 2 (some .int), .fieldLink RX4 19 "PencilWorks$Machine" "jobsOf" "[I", .fieldLink RX4 31 "PencilWorks$Machine" "jobs" "I"] ++ wsX60 ++ wsX40 ++ (vx_atS RX6 86 "java/lang/IndexOutOfBoundsException" ["java/lang/RuntimeException", "java/lang/Exception"]).filter goodWord)
def wsX6_on : List Cond := .code yX6_on cX6_on 2 none :: ([.classLink RX6 82 "java/lang/IndexOutOfBoundsException", .initialized "java/lang/IndexOutOfBoundsException", .fieldLink RX6 47 "PencilWorks" "machine" "LPencilWorks$Machine;", .fieldLink RX6 226 "PencilWorks$Machine" "colour" "I", .methodLink RX6 79 yX6_isNumberOf, .static yX6_isNumberOf, .initialized RX6, .code yX6_isNumberOf cX6_isNumberOf 2 (some .boolean)] ++ wsX60 ++ wsX40 ++ (vx_atS RX6 86 "java/lang/IndexOutOfBoundsException" ["java/lang/RuntimeException", "java/lang/Exception"]).filter goodWord)
def wsX6_changes_r1 : List Cond := [Cond.fieldLink RX6 47 "PencilWorks" "machine" "LPencilWorks$Machine;", Cond.methodLink RX6 229 yX4_runJobs, Cond.instanceMethod yX4_runJobs, Cond.selects RX4 yX4_runJobs yX4_runJobs, Cond.initialized RX4, Cond.code yX4_runJobs cX4_runJobs 4 (some .int), Cond.fieldLink RX4 28 "PencilWorks$Machine" "leastCost" "[I", Cond.methodLink RX4 34 yX4_setWeights, Cond.instanceMethod yX4_setWeights, Cond.selects RX4 yX4_setWeights yX4_setWeights, Cond.code yX4_setWeights cX4_setWeights 3 (some .int), Cond.fieldLink RX4 22 "PencilWorks$Machine" "weight" "[I", Cond.fieldLink RX4 19 "PencilWorks$Machine" "jobsOf" "[I", Cond.methodLink RX4 57 Lib.Math.min.name, Cond.static Lib.Math.min.name, Cond.initialized "java/lang/Math", Cond.code Lib.Math.min.name Lib.Math.min.code 2 (some .int), Cond.methodLink RX4 38 yX4_setLeft, Cond.instanceMethod yX4_setLeft, Cond.selects RX4 yX4_setLeft yX4_setLeft, Cond.code yX4_setLeft cX4_setLeft 5 none, Cond.fieldLink RX4 25 "PencilWorks$Machine" "left" "[I", Cond.methodLink RX4 42 yX4_bestNext, Cond.instanceMethod yX4_bestNext]
def wsX6_changes_r2 : List Cond := [Cond.selects RX4 yX4_bestNext yX4_bestNext, Cond.code yX4_bestNext cX4_bestNext 7 (some .int), Cond.methodLink RX4 46 yX4_costThrough, Cond.instanceMethod yX4_costThrough, Cond.selects RX4 yX4_costThrough yX4_costThrough, Cond.code yX4_costThrough cX4_costThrough 4 (some .int), Cond.fieldLink RX4 9 "PencilWorks$Machine" "costs" "[I", Cond.methodLink RX4 50 yX4_walkBestOrder, Cond.instanceMethod yX4_walkBestOrder, Cond.selects RX4 yX4_walkBestOrder yX4_walkBestOrder, Cond.code yX4_walkBestOrder cX4_walkBestOrder 7 (some .int), Cond.fieldLink RX4 31 "PencilWorks$Machine" "jobs" "I", Cond.fieldLink RX4 15 "PencilWorks$Machine" "colour" "I", Cond.methodLink RX4 54 yX4_clearJobs, Cond.instanceMethod yX4_clearJobs, Cond.selects RX4 yX4_clearJobs yX4_clearJobs, Cond.code yX4_clearJobs cX4_clearJobs 2 none]
def wsX6_changes : List Cond := .code yX6_changes cX6_changes 1 (some .int) :: ((wsX6_changes_r1 ++ wsX6_changes_r2) ++ wsX60 ++ wsX40)
def wsX6_count : List Cond := .code yX6_count cX6_count 2 (some .int) :: ([.fieldLink RX6 26 "PencilWorks" "trials" "LPencilWorks$Trials;", .fieldLink RX6 152 "PencilWorks$Trials" "today" "I", .fieldLink RX6 10 "PencilWorks" "earths" "LPencilWorks$Earths;", .fieldLink RX6 66 "PencilWorks$Earths" "number" "I", .fieldLink RX6 19 "PencilWorks" "lots" "LPencilWorks$Lots;", .fieldLink RX6 105 "PencilWorks$Lots" "number" "I", .fieldLink RX6 127 "PencilWorks$Lots" "batches" "I", .fieldLink RX6 232 "PencilWorks$Lots" "pencils" "I", .fieldLink RX6 170 "PencilWorks$Trials" "number" "I", .fieldLink RX6 40 "PencilWorks" "grades" "LPencilWorks$Grades;", .fieldLink RX6 235 "PencilWorks$Grades" "slatsInAll" "I", .fieldLink RX6 205 "PencilWorks$Grades" "number" "I", .fieldLink RX6 47 "PencilWorks" "machine" "LPencilWorks$Machine;", .fieldLink RX6 220 "PencilWorks$Machine" "jobs" "I", .fieldLink RX6 226 "PencilWorks$Machine" "colour" "I"] ++ wsX60 ++ wsX50 ++ wsX10 ++ wsX30 ++ wsX20 ++ wsX40)
def wsX7_init_r1 : List Cond := [Cond.methodLink RX7 1 objectInit, Cond.instanceMethod objectInit, Cond.code objectInit ⟨#[0xb1]⟩ 1 none, Cond.arrayClass .int, Cond.fieldLink RX7 9 "PencilWorksModel" "low" "[I", Cond.fieldLink RX7 13 "PencilWorksModel" "high" "[I", Cond.fieldLink RX7 16 "PencilWorksModel" "price" "[I", Cond.fieldLink RX7 19 "PencilWorksModel" "has" "[I", Cond.fieldLink RX7 22 "PencilWorksModel" "part" "[I", Cond.fieldLink RX7 25 "PencilWorksModel" "best" "[I", Cond.fieldLink RX7 28 "PencilWorksModel" "kind" "[I", Cond.fieldLink RX7 31 "PencilWorksModel" "pieces" "[I", Cond.fieldLink RX7 34 "PencilWorksModel" "used" "[I", Cond.fieldLink RX7 37 "PencilWorksModel" "lotLow" "[I", Cond.fieldLink RX7 40 "PencilWorksModel" "lotHigh" "[I", Cond.fieldLink RX7 43 "PencilWorksModel" "batch" "[I", Cond.fieldLink RX7 46 "PencilWorksModel" "tBatch" "[I", Cond.arrayClass .boolean, Cond.fieldLink RX7 49 "PencilWorksModel" "tBroke" "[Z", Cond.fieldLink RX7 53 "PencilWorksModel" "tTold" "[I", Cond.fieldLink RX7 56 "PencilWorksModel" "tBack" "[I", Cond.fieldLink RX7 59 "PencilWorksModel" "isBroken" "[Z", Cond.fieldLink RX7 62 "PencilWorksModel" "slat" "[I", Cond.fieldLink RX7 65 "PencilWorksModel" "least" "[I"]
def wsX7_init_r2 : List Cond := [Cond.fieldLink RX7 68 "PencilWorksModel" "worth" "[I", Cond.fieldLink RX7 71 "PencilWorksModel" "room" "[I", Cond.fieldLink RX7 74 "PencilWorksModel" "free" "[I", Cond.fieldLink RX7 77 "PencilWorksModel" "isDone" "[Z", Cond.fieldLink RX7 80 "PencilWorksModel" "cost" "[I", Cond.fieldLink RX7 83 "PencilWorksModel" "job" "[I", Cond.fieldLink RX7 86 "PencilWorksModel" "colour" "I", Cond.fieldLink RX7 90 "PencilWorksModel" "rest" "[I"]
def wsX7_init : List Cond := .code yX7_init cX7_init 1 none :: ((wsX7_init_r1 ++ wsX7_init_r2) ++ wsX70)
def wsX7_thrown : List Cond := .code yX7_thrown cX7_thrown 1 (some .int) :: ([.fieldLink RX7 93 "PencilWorksModel" "thrown" "I"] ++ wsX70)
def wsX7_throwsIf : List Cond := .code yX7_throwsIf cX7_throwsIf 3 (some .boolean) :: ([.fieldLink RX7 93 "PencilWorksModel" "thrown" "I"] ++ wsX70)
def wsX7_in : List Cond := .code yX7_in cX7_in 3 (some .boolean) :: ([])
def wsX7_earth : List Cond := .code yX7_earth cX7_earth 5 (some .int) :: ([.fieldLink RX7 93 "PencilWorksModel" "thrown" "I", .fieldLink RX7 104 "PencilWorksModel" "earths" "I", .fieldLink RX7 9 "PencilWorksModel" "low" "[I", .fieldLink RX7 13 "PencilWorksModel" "high" "[I", .fieldLink RX7 16 "PencilWorksModel" "price" "[I", .fieldLink RX7 19 "PencilWorksModel" "has" "[I", .methodLink RX7 96 yX7_in, .static yX7_in, .initialized RX7, .code yX7_in cX7_in 3 (some .boolean), .methodLink RX7 100 yX7_throwsIf, .instanceMethod yX7_throwsIf, .selects RX7 yX7_throwsIf yX7_throwsIf, .code yX7_throwsIf cX7_throwsIf 3 (some .boolean)] ++ wsX70)
def wsX7_noEarth : List Cond := .code yX7_noEarth cX7_noEarth 2 (some .boolean) :: ([.fieldLink RX7 104 "PencilWorksModel" "earths" "I", .methodLink RX7 96 yX7_in, .static yX7_in, .initialized RX7, .code yX7_in cX7_in 3 (some .boolean)] ++ wsX70)
def wsX7_bring : List Cond := .code yX7_bring cX7_bring 3 (some .int) :: ([.fieldLink RX7 93 "PencilWorksModel" "thrown" "I", .fieldLink RX7 19 "PencilWorksModel" "has" "[I", .methodLink RX7 107 yX7_noEarth, .instanceMethod yX7_noEarth, .selects RX7 yX7_noEarth yX7_noEarth, .initialized RX7, .code yX7_noEarth cX7_noEarth 2 (some .boolean), .fieldLink RX7 104 "PencilWorksModel" "earths" "I", .methodLink RX7 96 yX7_in, .static yX7_in, .code yX7_in cX7_in 3 (some .boolean), .methodLink RX7 100 yX7_throwsIf, .instanceMethod yX7_throwsIf, .selects RX7 yX7_throwsIf yX7_throwsIf, .code yX7_throwsIf cX7_throwsIf 3 (some .boolean)] ++ wsX70)
def wsX7_goes : List Cond := .code yX7_goes cX7_goes 9 none :: ([.fieldLink RX7 104 "PencilWorksModel" "earths" "I", .fieldLink RX7 111 "PencilWorksModel" "bestPrice" "I", .fieldLink RX7 114 "PencilWorksModel" "bestLow" "I", .fieldLink RX7 117 "PencilWorksModel" "bestHigh" "I", .fieldLink RX7 25 "PencilWorksModel" "best" "[I", .fieldLink RX7 22 "PencilWorksModel" "part" "[I", .fieldLink RX7 19 "PencilWorksModel" "has" "[I", .fieldLink RX7 9 "PencilWorksModel" "low" "[I", .fieldLink RX7 13 "PencilWorksModel" "high" "[I", .fieldLink RX7 16 "PencilWorksModel" "price" "[I", .methodLink RX7 120 yX7_goes, .instanceMethod yX7_goes, .selects RX7 yX7_goes yX7_goes, .initialized RX7] ++ wsX70)
def wsX7_blends : List Cond := .code yX7_blends cX7_blends 3 (some .int) :: ([.fieldLink RX7 111 "PencilWorksModel" "bestPrice" "I", .methodLink RX7 120 yX7_goes, .instanceMethod yX7_goes, .selects RX7 yX7_goes yX7_goes, .initialized RX7, .code yX7_goes cX7_goes 9 none, .fieldLink RX7 104 "PencilWorksModel" "earths" "I", .fieldLink RX7 114 "PencilWorksModel" "bestLow" "I", .fieldLink RX7 117 "PencilWorksModel" "bestHigh" "I", .fieldLink RX7 25 "PencilWorksModel" "best" "[I", .fieldLink RX7 22 "PencilWorksModel" "part" "[I", .fieldLink RX7 19 "PencilWorksModel" "has" "[I", .fieldLink RX7 9 "PencilWorksModel" "low" "[I", .fieldLink RX7 13 "PencilWorksModel" "high" "[I", .fieldLink RX7 16 "PencilWorksModel" "price" "[I"] ++ wsX70)
def wsX7_noGrade : List Cond := .code yX7_noGrade cX7_noGrade 2 (some .boolean) :: ([])
def wsX7_blend_r1 : List Cond := [Cond.fieldLink RX7 93 "PencilWorksModel" "thrown" "I", Cond.methodLink RX7 124 yX7_noGrade, Cond.static yX7_noGrade, Cond.initialized RX7, Cond.code yX7_noGrade cX7_noGrade 2 (some .boolean), Cond.methodLink RX7 100 yX7_throwsIf, Cond.instanceMethod yX7_throwsIf, Cond.selects RX7 yX7_throwsIf yX7_throwsIf, Cond.code yX7_throwsIf cX7_throwsIf 3 (some .boolean), Cond.methodLink RX7 128 yX7_blends, Cond.instanceMethod yX7_blends, Cond.selects RX7 yX7_blends yX7_blends, Cond.code yX7_blends cX7_blends 3 (some .int), Cond.fieldLink RX7 111 "PencilWorksModel" "bestPrice" "I", Cond.methodLink RX7 120 yX7_goes, Cond.instanceMethod yX7_goes, Cond.selects RX7 yX7_goes yX7_goes, Cond.code yX7_goes cX7_goes 9 none, Cond.fieldLink RX7 104 "PencilWorksModel" "earths" "I", Cond.fieldLink RX7 114 "PencilWorksModel" "bestLow" "I", Cond.fieldLink RX7 117 "PencilWorksModel" "bestHigh" "I", Cond.fieldLink RX7 25 "PencilWorksModel" "best" "[I", Cond.fieldLink RX7 22 "PencilWorksModel" "part" "[I", Cond.fieldLink RX7 19 "PencilWorksModel" "has" "[I"]
def wsX7_blend_r2 : List Cond := [Cond.fieldLink RX7 9 "PencilWorksModel" "low" "[I", Cond.fieldLink RX7 13 "PencilWorksModel" "high" "[I", Cond.fieldLink RX7 16 "PencilWorksModel" "price" "[I"]
def wsX7_blend : List Cond := .code yX7_blend cX7_blend 3 (some .int) :: ((wsX7_blend_r1 ++ wsX7_blend_r2) ++ wsX70)
def wsX7_parts_r1 : List Cond := [Cond.fieldLink RX7 93 "PencilWorksModel" "thrown" "I", Cond.fieldLink RX7 25 "PencilWorksModel" "best" "[I", Cond.methodLink RX7 107 yX7_noEarth, Cond.instanceMethod yX7_noEarth, Cond.selects RX7 yX7_noEarth yX7_noEarth, Cond.initialized RX7, Cond.code yX7_noEarth cX7_noEarth 2 (some .boolean), Cond.fieldLink RX7 104 "PencilWorksModel" "earths" "I", Cond.methodLink RX7 96 yX7_in, Cond.static yX7_in, Cond.code yX7_in cX7_in 3 (some .boolean), Cond.methodLink RX7 100 yX7_throwsIf, Cond.instanceMethod yX7_throwsIf, Cond.selects RX7 yX7_throwsIf yX7_throwsIf, Cond.code yX7_throwsIf cX7_throwsIf 3 (some .boolean), Cond.methodLink RX7 124 yX7_noGrade, Cond.static yX7_noGrade, Cond.code yX7_noGrade cX7_noGrade 2 (some .boolean), Cond.methodLink RX7 128 yX7_blends, Cond.instanceMethod yX7_blends, Cond.selects RX7 yX7_blends yX7_blends, Cond.code yX7_blends cX7_blends 3 (some .int), Cond.fieldLink RX7 111 "PencilWorksModel" "bestPrice" "I", Cond.methodLink RX7 120 yX7_goes]
def wsX7_parts_r2 : List Cond := [Cond.instanceMethod yX7_goes, Cond.selects RX7 yX7_goes yX7_goes, Cond.code yX7_goes cX7_goes 9 none, Cond.fieldLink RX7 114 "PencilWorksModel" "bestLow" "I", Cond.fieldLink RX7 117 "PencilWorksModel" "bestHigh" "I", Cond.fieldLink RX7 22 "PencilWorksModel" "part" "[I", Cond.fieldLink RX7 19 "PencilWorksModel" "has" "[I", Cond.fieldLink RX7 9 "PencilWorksModel" "low" "[I", Cond.fieldLink RX7 13 "PencilWorksModel" "high" "[I", Cond.fieldLink RX7 16 "PencilWorksModel" "price" "[I"]
def wsX7_parts : List Cond := .code yX7_parts cX7_parts 4 (some .int) :: ((wsX7_parts_r1 ++ wsX7_parts_r2) ++ wsX70)
def wsX7_noLot : List Cond := .code yX7_noLot cX7_noLot 2 (some .boolean) :: ([.fieldLink RX7 132 "PencilWorksModel" "lots" "I", .methodLink RX7 96 yX7_in, .static yX7_in, .initialized RX7, .code yX7_in cX7_in 3 (some .boolean)] ++ wsX70)
def wsX7_adds : List Cond := .code yX7_adds cX7_adds 5 (some .int) :: ([.fieldLink RX7 28 "PencilWorksModel" "kind" "[I", .fieldLink RX7 132 "PencilWorksModel" "lots" "I", .fieldLink RX7 31 "PencilWorksModel" "pieces" "[I", .fieldLink RX7 37 "PencilWorksModel" "lotLow" "[I", .fieldLink RX7 40 "PencilWorksModel" "lotHigh" "[I"] ++ wsX70)
def wsX7_cores_r1 : List Cond := [Cond.fieldLink RX7 93 "PencilWorksModel" "thrown" "I", Cond.fieldLink RX7 132 "PencilWorksModel" "lots" "I", Cond.fieldLink RX7 104 "PencilWorksModel" "earths" "I", Cond.fieldLink RX7 19 "PencilWorksModel" "has" "[I", Cond.fieldLink RX7 25 "PencilWorksModel" "best" "[I", Cond.fieldLink RX7 114 "PencilWorksModel" "bestLow" "I", Cond.fieldLink RX7 117 "PencilWorksModel" "bestHigh" "I", Cond.methodLink RX7 124 yX7_noGrade, Cond.static yX7_noGrade, Cond.initialized RX7, Cond.code yX7_noGrade cX7_noGrade 2 (some .boolean), Cond.methodLink RX7 100 yX7_throwsIf, Cond.instanceMethod yX7_throwsIf, Cond.selects RX7 yX7_throwsIf yX7_throwsIf, Cond.code yX7_throwsIf cX7_throwsIf 3 (some .boolean), Cond.methodLink RX7 128 yX7_blends, Cond.instanceMethod yX7_blends, Cond.selects RX7 yX7_blends yX7_blends, Cond.code yX7_blends cX7_blends 3 (some .int), Cond.fieldLink RX7 111 "PencilWorksModel" "bestPrice" "I", Cond.methodLink RX7 120 yX7_goes, Cond.instanceMethod yX7_goes, Cond.selects RX7 yX7_goes yX7_goes, Cond.code yX7_goes cX7_goes 9 none]
def wsX7_cores_r2 : List Cond := [Cond.fieldLink RX7 22 "PencilWorksModel" "part" "[I", Cond.fieldLink RX7 9 "PencilWorksModel" "low" "[I", Cond.fieldLink RX7 13 "PencilWorksModel" "high" "[I", Cond.fieldLink RX7 16 "PencilWorksModel" "price" "[I", Cond.methodLink RX7 135 yX7_adds, Cond.instanceMethod yX7_adds, Cond.selects RX7 yX7_adds yX7_adds, Cond.code yX7_adds cX7_adds 5 (some .int), Cond.fieldLink RX7 28 "PencilWorksModel" "kind" "[I", Cond.fieldLink RX7 31 "PencilWorksModel" "pieces" "[I", Cond.fieldLink RX7 37 "PencilWorksModel" "lotLow" "[I", Cond.fieldLink RX7 40 "PencilWorksModel" "lotHigh" "[I"]
def wsX7_cores : List Cond := .code yX7_cores cX7_cores 4 (some .int) :: ((wsX7_cores_r1 ++ wsX7_cores_r2) ++ wsX70)
def wsX7_lot : List Cond := .code yX7_lot cX7_lot 3 (some .int) :: ([.fieldLink RX7 93 "PencilWorksModel" "thrown" "I", .fieldLink RX7 132 "PencilWorksModel" "lots" "I", .methodLink RX7 96 yX7_in, .static yX7_in, .initialized RX7, .code yX7_in cX7_in 3 (some .boolean), .methodLink RX7 100 yX7_throwsIf, .instanceMethod yX7_throwsIf, .selects RX7 yX7_throwsIf yX7_throwsIf, .code yX7_throwsIf cX7_throwsIf 3 (some .boolean), .methodLink RX7 135 yX7_adds, .instanceMethod yX7_adds, .selects RX7 yX7_adds yX7_adds, .code yX7_adds cX7_adds 5 (some .int), .fieldLink RX7 28 "PencilWorksModel" "kind" "[I", .fieldLink RX7 31 "PencilWorksModel" "pieces" "[I", .fieldLink RX7 37 "PencilWorksModel" "lotLow" "[I", .fieldLink RX7 40 "PencilWorksModel" "lotHigh" "[I"] ++ wsX70)
def wsX7_uses : List Cond := .code yX7_uses cX7_uses 3 none :: ([.fieldLink RX7 31 "PencilWorksModel" "pieces" "[I", .fieldLink RX7 34 "PencilWorksModel" "used" "[I"] ++ wsX70)
def wsX7_make : List Cond := .code yX7_make cX7_make 5 (some .int) :: ([.fieldLink RX7 93 "PencilWorksModel" "thrown" "I", .fieldLink RX7 28 "PencilWorksModel" "kind" "[I", .fieldLink RX7 31 "PencilWorksModel" "pieces" "[I", .fieldLink RX7 142 "PencilWorksModel" "batches" "I", .fieldLink RX7 149 "PencilWorksModel" "pencils" "I", .fieldLink RX7 43 "PencilWorksModel" "batch" "[I", .methodLink RX7 139 yX7_noLot, .instanceMethod yX7_noLot, .selects RX7 yX7_noLot yX7_noLot, .initialized RX7, .code yX7_noLot cX7_noLot 2 (some .boolean), .fieldLink RX7 132 "PencilWorksModel" "lots" "I", .methodLink RX7 96 yX7_in, .static yX7_in, .code yX7_in cX7_in 3 (some .boolean), .methodLink RX7 100 yX7_throwsIf, .instanceMethod yX7_throwsIf, .selects RX7 yX7_throwsIf yX7_throwsIf, .code yX7_throwsIf cX7_throwsIf 3 (some .boolean), .methodLink RX7 145 yX7_uses, .instanceMethod yX7_uses, .selects RX7 yX7_uses yX7_uses, .code yX7_uses cX7_uses 3 none, .fieldLink RX7 34 "PencilWorksModel" "used" "[I"] ++ wsX70)
def wsX7_trial : List Cond := .code yX7_trial cX7_trial 3 (some .int) :: ([.fieldLink RX7 93 "PencilWorksModel" "thrown" "I", .fieldLink RX7 142 "PencilWorksModel" "batches" "I", .fieldLink RX7 152 "PencilWorksModel" "trials" "I", .fieldLink RX7 46 "PencilWorksModel" "tBatch" "[I", .fieldLink RX7 49 "PencilWorksModel" "tBroke" "[Z", .fieldLink RX7 53 "PencilWorksModel" "tTold" "[I", .fieldLink RX7 155 "PencilWorksModel" "today" "I", .fieldLink RX7 56 "PencilWorksModel" "tBack" "[I", .methodLink RX7 96 yX7_in, .static yX7_in, .initialized RX7, .code yX7_in cX7_in 3 (some .boolean), .methodLink RX7 100 yX7_throwsIf, .instanceMethod yX7_throwsIf, .selects RX7 yX7_throwsIf yX7_throwsIf, .code yX7_throwsIf cX7_throwsIf 3 (some .boolean)] ++ wsX70)
def wsX7_undo : List Cond := .code yX7_undo cX7_undo 2 (some .boolean) :: ([.fieldLink RX7 93 "PencilWorksModel" "thrown" "I", .fieldLink RX7 152 "PencilWorksModel" "trials" "I", .fieldLink RX7 56 "PencilWorksModel" "tBack" "[I", .fieldLink RX7 155 "PencilWorksModel" "today" "I", .methodLink RX7 96 yX7_in, .static yX7_in, .initialized RX7, .code yX7_in cX7_in 3 (some .boolean), .methodLink RX7 100 yX7_throwsIf, .instanceMethod yX7_throwsIf, .selects RX7 yX7_throwsIf yX7_throwsIf, .code yX7_throwsIf cX7_throwsIf 3 (some .boolean)] ++ wsX70)
def wsX7_days : List Cond := .code yX7_days cX7_days 2 (some .int) :: ([.fieldLink RX7 93 "PencilWorksModel" "thrown" "I", .fieldLink RX7 155 "PencilWorksModel" "today" "I", .methodLink RX7 158 Lib.Math.min.name, .static Lib.Math.min.name, .initialized "java/lang/Math", .code Lib.Math.min.name Lib.Math.min.code 2 (some .int), .methodLink RX7 96 yX7_in, .static yX7_in, .initialized RX7, .code yX7_in cX7_in 3 (some .boolean), .methodLink RX7 100 yX7_throwsIf, .instanceMethod yX7_throwsIf, .selects RX7 yX7_throwsIf yX7_throwsIf, .code yX7_throwsIf cX7_throwsIf 3 (some .boolean)] ++ wsX70)
def wsX7_did : List Cond := .code yX7_did cX7_did 5 (some .boolean) :: ([.fieldLink RX7 152 "PencilWorksModel" "trials" "I", .fieldLink RX7 46 "PencilWorksModel" "tBatch" "[I", .fieldLink RX7 49 "PencilWorksModel" "tBroke" "[Z", .fieldLink RX7 53 "PencilWorksModel" "tTold" "[I", .fieldLink RX7 56 "PencilWorksModel" "tBack" "[I"] ++ wsX70)
def wsJ6_bitCount_0f7a4 : List Cond := .code yJ6_bitCount_0f7a4 cJ6_bitCount_0f7a4 1 (some .int) :: ([.constant RJ6 265 (1431655765), .constant RJ6 266 (858993459), .constant RJ6 267 (252645135)])
def wsX7_explains : List Cond := .code yX7_explains cX7_explains 6 none :: ([.fieldLink RX7 132 "PencilWorksModel" "lots" "I", .fieldLink RX7 142 "PencilWorksModel" "batches" "I", .fieldLink RX7 59 "PencilWorksModel" "isBroken" "[Z", .fieldLink RX7 43 "PencilWorksModel" "batch" "[I", .fieldLink RX7 167 "PencilWorksModel" "fewest" "I", .fieldLink RX7 170 "PencilWorksModel" "ways" "I", .fieldLink RX7 173 "PencilWorksModel" "sure" "I", .methodLink RX7 163 yX7_did, .instanceMethod yX7_did, .selects RX7 yX7_did yX7_did, .initialized RX7, .code yX7_did cX7_did 5 (some .boolean), .fieldLink RX7 152 "PencilWorksModel" "trials" "I", .fieldLink RX7 46 "PencilWorksModel" "tBatch" "[I", .fieldLink RX7 49 "PencilWorksModel" "tBroke" "[Z", .fieldLink RX7 53 "PencilWorksModel" "tTold" "[I", .fieldLink RX7 56 "PencilWorksModel" "tBack" "[I", .methodLink RX7 176 yJ6_bitCount_0f7a4, .static yJ6_bitCount_0f7a4, .initialized RJ6, .code yJ6_bitCount_0f7a4 cJ6_bitCount_0f7a4 1 (some .int), .constant RJ6 265 (1431655765), .constant RJ6 266 (858993459), .constant RJ6 267 (252645135)] ++ wsX70)
def wsX7_explain_r1 : List Cond := [Cond.fieldLink RX7 93 "PencilWorksModel" "thrown" "I", Cond.fieldLink RX7 167 "PencilWorksModel" "fewest" "I", Cond.fieldLink RX7 170 "PencilWorksModel" "ways" "I", Cond.fieldLink RX7 173 "PencilWorksModel" "sure" "I", Cond.methodLink RX7 96 yX7_in, Cond.static yX7_in, Cond.initialized RX7, Cond.code yX7_in cX7_in 3 (some .boolean), Cond.methodLink RX7 100 yX7_throwsIf, Cond.instanceMethod yX7_throwsIf, Cond.selects RX7 yX7_throwsIf yX7_throwsIf, Cond.code yX7_throwsIf cX7_throwsIf 3 (some .boolean), Cond.methodLink RX7 182 yX7_explains, Cond.instanceMethod yX7_explains, Cond.selects RX7 yX7_explains yX7_explains, Cond.code yX7_explains cX7_explains 6 none, Cond.fieldLink RX7 132 "PencilWorksModel" "lots" "I", Cond.fieldLink RX7 142 "PencilWorksModel" "batches" "I", Cond.fieldLink RX7 59 "PencilWorksModel" "isBroken" "[Z", Cond.fieldLink RX7 43 "PencilWorksModel" "batch" "[I", Cond.methodLink RX7 163 yX7_did, Cond.instanceMethod yX7_did, Cond.selects RX7 yX7_did yX7_did, Cond.code yX7_did cX7_did 5 (some .boolean)]
def wsX7_explain_r2 : List Cond := [Cond.fieldLink RX7 152 "PencilWorksModel" "trials" "I", Cond.fieldLink RX7 46 "PencilWorksModel" "tBatch" "[I", Cond.fieldLink RX7 49 "PencilWorksModel" "tBroke" "[Z", Cond.fieldLink RX7 53 "PencilWorksModel" "tTold" "[I", Cond.fieldLink RX7 56 "PencilWorksModel" "tBack" "[I", Cond.methodLink RX7 176 yJ6_bitCount_0f7a4, Cond.static yJ6_bitCount_0f7a4, Cond.initialized RJ6, Cond.code yJ6_bitCount_0f7a4 cJ6_bitCount_0f7a4 1 (some .int), Cond.constant RJ6 265 (1431655765), Cond.constant RJ6 266 (858993459), Cond.constant RJ6 267 (252645135)]
def wsX7_explain : List Cond := .code yX7_explain cX7_explain 3 (some .int) :: ((wsX7_explain_r1 ++ wsX7_explain_r2) ++ wsX70)
def wsX7_look_r1 : List Cond := [Cond.fieldLink RX7 93 "PencilWorksModel" "thrown" "I", Cond.fieldLink RX7 28 "PencilWorksModel" "kind" "[I", Cond.fieldLink RX7 31 "PencilWorksModel" "pieces" "[I", Cond.fieldLink RX7 34 "PencilWorksModel" "used" "[I", Cond.fieldLink RX7 37 "PencilWorksModel" "lotLow" "[I", Cond.fieldLink RX7 40 "PencilWorksModel" "lotHigh" "[I", Cond.fieldLink RX7 142 "PencilWorksModel" "batches" "I", Cond.fieldLink RX7 43 "PencilWorksModel" "batch" "[I", Cond.fieldLink RX7 155 "PencilWorksModel" "today" "I", Cond.methodLink RX7 139 yX7_noLot, Cond.instanceMethod yX7_noLot, Cond.selects RX7 yX7_noLot yX7_noLot, Cond.initialized RX7, Cond.code yX7_noLot cX7_noLot 2 (some .boolean), Cond.fieldLink RX7 132 "PencilWorksModel" "lots" "I", Cond.methodLink RX7 96 yX7_in, Cond.static yX7_in, Cond.code yX7_in cX7_in 3 (some .boolean), Cond.methodLink RX7 100 yX7_throwsIf, Cond.instanceMethod yX7_throwsIf, Cond.selects RX7 yX7_throwsIf yX7_throwsIf, Cond.code yX7_throwsIf cX7_throwsIf 3 (some .boolean), Cond.methodLink RX7 163 yX7_did, Cond.instanceMethod yX7_did]
def wsX7_look_r2 : List Cond := [Cond.selects RX7 yX7_did yX7_did, Cond.code yX7_did cX7_did 5 (some .boolean), Cond.fieldLink RX7 152 "PencilWorksModel" "trials" "I", Cond.fieldLink RX7 46 "PencilWorksModel" "tBatch" "[I", Cond.fieldLink RX7 49 "PencilWorksModel" "tBroke" "[Z", Cond.fieldLink RX7 53 "PencilWorksModel" "tTold" "[I", Cond.fieldLink RX7 56 "PencilWorksModel" "tBack" "[I"]
def wsX7_look : List Cond := .code yX7_look cX7_look 5 (some .int) :: ((wsX7_look_r1 ++ wsX7_look_r2) ++ wsX70)
def wsX7_slatsOfAll : List Cond := .code yX7_slatsOfAll cX7_slatsOfAll 3 (some .int) :: ([.fieldLink RX7 62 "PencilWorksModel" "slat" "[I"] ++ wsX70)
def wsX7_slats : List Cond := .code yX7_slats cX7_slats 3 (some .int) :: ([.fieldLink RX7 93 "PencilWorksModel" "thrown" "I", .fieldLink RX7 62 "PencilWorksModel" "slat" "[I", .methodLink RX7 96 yX7_in, .static yX7_in, .initialized RX7, .code yX7_in cX7_in 3 (some .boolean), .methodLink RX7 100 yX7_throwsIf, .instanceMethod yX7_throwsIf, .selects RX7 yX7_throwsIf yX7_throwsIf, .code yX7_throwsIf cX7_throwsIf 3 (some .boolean), .methodLink RX7 186 yX7_slatsOfAll, .instanceMethod yX7_slatsOfAll, .selects RX7 yX7_slatsOfAll yX7_slatsOfAll, .code yX7_slatsOfAll cX7_slatsOfAll 3 (some .int)] ++ wsX70)
def wsX7_grade : List Cond := .code yX7_grade cX7_grade 4 (some .int) :: ([.fieldLink RX7 93 "PencilWorksModel" "thrown" "I", .fieldLink RX7 190 "PencilWorksModel" "grades" "I", .fieldLink RX7 65 "PencilWorksModel" "least" "[I", .fieldLink RX7 68 "PencilWorksModel" "worth" "[I", .fieldLink RX7 71 "PencilWorksModel" "room" "[I", .methodLink RX7 96 yX7_in, .static yX7_in, .initialized RX7, .code yX7_in cX7_in 3 (some .boolean), .methodLink RX7 100 yX7_throwsIf, .instanceMethod yX7_throwsIf, .selects RX7 yX7_throwsIf yX7_throwsIf, .code yX7_throwsIf cX7_throwsIf 3 (some .boolean)] ++ wsX70)
def wsX7_ungrade : List Cond := .code yX7_ungrade cX7_ungrade 2 (some .int) :: ([.fieldLink RX7 93 "PencilWorksModel" "thrown" "I", .fieldLink RX7 190 "PencilWorksModel" "grades" "I"] ++ wsX70)
def wsX7_dearest : List Cond := .code yX7_dearest cX7_dearest 3 (some .int) :: ([.fieldLink RX7 190 "PencilWorksModel" "grades" "I", .fieldLink RX7 77 "PencilWorksModel" "isDone" "[Z", .fieldLink RX7 68 "PencilWorksModel" "worth" "[I"] ++ wsX70)
def wsX7_most : List Cond := .code yX7_most cX7_most 6 (some .int) :: ([.fieldLink RX7 93 "PencilWorksModel" "thrown" "I", .fieldLink RX7 62 "PencilWorksModel" "slat" "[I", .fieldLink RX7 74 "PencilWorksModel" "free" "[I", .fieldLink RX7 77 "PencilWorksModel" "isDone" "[Z", .fieldLink RX7 71 "PencilWorksModel" "room" "[I", .fieldLink RX7 65 "PencilWorksModel" "least" "[I", .methodLink RX7 158 Lib.Math.min.name, .static Lib.Math.min.name, .initialized "java/lang/Math", .code Lib.Math.min.name Lib.Math.min.code 2 (some .int), .fieldLink RX7 68 "PencilWorksModel" "worth" "[I", .methodLink RX7 193 yX7_dearest, .instanceMethod yX7_dearest, .selects RX7 yX7_dearest yX7_dearest, .initialized RX7, .code yX7_dearest cX7_dearest 3 (some .int), .fieldLink RX7 190 "PencilWorksModel" "grades" "I"] ++ wsX70)
def wsX7_noColour : List Cond := .code yX7_noColour cX7_noColour 1 (some .boolean) :: ([.methodLink RX7 96 yX7_in, .static yX7_in, .initialized RX7, .code yX7_in cX7_in 3 (some .boolean)])
def wsX7_change : List Cond := .code yX7_change cX7_change 4 none :: ([.fieldLink RX7 93 "PencilWorksModel" "thrown" "I", .fieldLink RX7 80 "PencilWorksModel" "cost" "[I", .methodLink RX7 196 yX7_noColour, .static yX7_noColour, .initialized RX7, .code yX7_noColour cX7_noColour 1 (some .boolean), .methodLink RX7 96 yX7_in, .static yX7_in, .code yX7_in cX7_in 3 (some .boolean), .methodLink RX7 100 yX7_throwsIf, .instanceMethod yX7_throwsIf, .selects RX7 yX7_throwsIf yX7_throwsIf, .code yX7_throwsIf cX7_throwsIf 3 (some .boolean)] ++ wsX70)
def wsX7_job : List Cond := .code yX7_job cX7_job 2 (some .int) :: ([.fieldLink RX7 93 "PencilWorksModel" "thrown" "I", .fieldLink RX7 199 "PencilWorksModel" "jobs" "I", .fieldLink RX7 83 "PencilWorksModel" "job" "[I", .methodLink RX7 196 yX7_noColour, .static yX7_noColour, .initialized RX7, .code yX7_noColour cX7_noColour 1 (some .boolean), .methodLink RX7 96 yX7_in, .static yX7_in, .code yX7_in cX7_in 3 (some .boolean), .methodLink RX7 100 yX7_throwsIf, .instanceMethod yX7_throwsIf, .selects RX7 yX7_throwsIf yX7_throwsIf, .code yX7_throwsIf cX7_throwsIf 3 (some .boolean)] ++ wsX70)
def wsX7_on : List Cond := .code yX7_on cX7_on 2 none :: ([.fieldLink RX7 93 "PencilWorksModel" "thrown" "I", .fieldLink RX7 86 "PencilWorksModel" "colour" "I", .methodLink RX7 196 yX7_noColour, .static yX7_noColour, .initialized RX7, .code yX7_noColour cX7_noColour 1 (some .boolean), .methodLink RX7 96 yX7_in, .static yX7_in, .code yX7_in cX7_in 3 (some .boolean), .methodLink RX7 100 yX7_throwsIf, .instanceMethod yX7_throwsIf, .selects RX7 yX7_throwsIf yX7_throwsIf, .code yX7_throwsIf cX7_throwsIf 3 (some .boolean)] ++ wsX70)
def wsX7_costs : List Cond := .code yX7_costs cX7_costs 3 (some .int) :: ([.fieldLink RX7 80 "PencilWorksModel" "cost" "[I"] ++ wsX70)
def wsX7_next : List Cond := .code yX7_next cX7_next 4 (some .int) :: ([.fieldLink RX7 83 "PencilWorksModel" "job" "[I", .fieldLink RX7 90 "PencilWorksModel" "rest" "[I", .methodLink RX7 202 yX7_costs, .instanceMethod yX7_costs, .selects RX7 yX7_costs yX7_costs, .initialized RX7, .code yX7_costs cX7_costs 3 (some .int), .fieldLink RX7 80 "PencilWorksModel" "cost" "[I"] ++ wsX70)
def wsX7_changes : List Cond := .code yX7_changes cX7_changes 7 (some .int) :: ([.fieldLink RX7 93 "PencilWorksModel" "thrown" "I", .fieldLink RX7 199 "PencilWorksModel" "jobs" "I", .constant RX7 205 (1000000000), .methodLink RX7 158 Lib.Math.min.name, .static Lib.Math.min.name, .initialized "java/lang/Math", .code Lib.Math.min.name Lib.Math.min.code 2 (some .int), .fieldLink RX7 90 "PencilWorksModel" "rest" "[I", .fieldLink RX7 86 "PencilWorksModel" "colour" "I", .fieldLink RX7 83 "PencilWorksModel" "job" "[I", .methodLink RX7 206 yX7_next, .instanceMethod yX7_next, .selects RX7 yX7_next yX7_next, .initialized RX7, .code yX7_next cX7_next 4 (some .int), .methodLink RX7 202 yX7_costs, .instanceMethod yX7_costs, .selects RX7 yX7_costs yX7_costs, .code yX7_costs cX7_costs 3 (some .int), .fieldLink RX7 80 "PencilWorksModel" "cost" "[I"] ++ wsX70)
def wsX7_count : List Cond := .code yX7_count cX7_count 2 (some .int) :: ([.fieldLink RX7 93 "PencilWorksModel" "thrown" "I", .fieldLink RX7 155 "PencilWorksModel" "today" "I", .fieldLink RX7 104 "PencilWorksModel" "earths" "I", .fieldLink RX7 132 "PencilWorksModel" "lots" "I", .fieldLink RX7 142 "PencilWorksModel" "batches" "I", .fieldLink RX7 149 "PencilWorksModel" "pencils" "I", .fieldLink RX7 152 "PencilWorksModel" "trials" "I", .fieldLink RX7 190 "PencilWorksModel" "grades" "I", .fieldLink RX7 199 "PencilWorksModel" "jobs" "I", .fieldLink RX7 86 "PencilWorksModel" "colour" "I", .methodLink RX7 186 yX7_slatsOfAll, .instanceMethod yX7_slatsOfAll, .selects RX7 yX7_slatsOfAll yX7_slatsOfAll, .initialized RX7, .code yX7_slatsOfAll cX7_slatsOfAll 3 (some .int), .fieldLink RX7 62 "PencilWorksModel" "slat" "[I"] ++ wsX70)
def wsJ9_max_7cf53 : List Cond := .code yJ9_max_7cf53 cJ9_max_7cf53 2 (some .int) :: ([])
def wsJ9_min_7cf53 : List Cond := .code yJ9_min_7cf53 cJ9_min_7cf53 2 (some .int) :: ([])
abbrev vwCl : List vw_C := [(RX0, TX0, 5), (RX1, TX1, 16), (RX2, TX2, 7), (RX3, TX3, 9), (RX4, TX4, 7), (RX5, TX5, 6), (RX6, TX6, 6), (RX7, TX7, 42)]
end
section
theorem dX0_init_0 : decode cX0_init 0 = .ok (.aload_n 0, 1) := by decide +kernel
theorem dX0_init_1 : decode cX0_init 1 = .ok (.invokespecial 3, 3) := by decide +kernel
theorem dX0_init_4 : decode cX0_init 4 = .ok (.aload_n 0, 1) := by decide +kernel
theorem dX0_init_5 : decode cX0_init 5 = .ok (.bipush 60, 2) := by decide +kernel
theorem dX0_init_7 : decode cX0_init 7 = .ok (.newarray .int, 2) := by decide +kernel
theorem dX0_init_9 : decode cX0_init 9 = .ok (.putfield 9, 3) := by decide +kernel
theorem dX0_init_12 : decode cX0_init 12 = .ok (.return_, 1) := by decide +kernel
set_option maxRecDepth 20000 in
theorem ggX0_seek_X3_lotsOf : GoodIn wsX0_seek wsX3_lotsOf := goodIn_r _ [8, 9, 10, 41, 42, 43, 44, 45, 46, 47, 48, 49] (by decide +kernel) (by decide +kernel)
set_option maxRecDepth 20000 in
theorem gX0_seek_X3_lotsOf : GoodIn wsX0_seek (wsV RX0 25 RX3 yX3_lotsOf wsX3_lotsOf) := goodIn_app (goodIn_of _ (by decide +kernel)) ggX0_seek_X3_lotsOf
set_option maxRecDepth 20000 in
theorem ggX0_seek_X0_setSuspects : GoodIn wsX0_seek wsX0_setSuspects := goodIn_r _ [15, 16, 17, 18, 19, 36, 37, 38, 39, 40, 41, 42, 43, 44, 45, 46, 47, 48, 49] (by decide +kernel) (by decide +kernel)
set_option maxRecDepth 20000 in
theorem gX0_seek_X0_setSuspects : GoodIn wsX0_seek (wsV RX0 31 RX0 yX0_setSuspects wsX0_setSuspects) := goodIn_app (goodIn_of _ (by decide +kernel)) ggX0_seek_X0_setSuspects
set_option maxRecDepth 20000 in
theorem ggX0_seek_X0_blameMore : GoodIn wsX0_seek wsX0_blameMore := goodIn_r _ [23, 1, 24, 25, 26, 14, 27, 16, 18, 28, 29, 30, 31, 2, 3, 32, 33, 34, 35, 20, 21, 22, 36, 37, 38, 39, 40] (by decide +kernel) (by decide +kernel)
set_option maxRecDepth 20000 in
theorem gX0_seek_X0_blameMore : GoodIn wsX0_seek (wsV RX0 35 RX0 yX0_blameMore wsX0_blameMore) := goodIn_app (goodIn_of _ (by decide +kernel)) ggX0_seek_X0_blameMore
theorem dX0_seek_0 : decode cX0_seek 0 = .ok (.aload_n 0, 1) := by decide +kernel
theorem dX0_seek_1 : decode cX0_seek 1 = .ok (.iconst (-1), 1) := by decide +kernel
theorem dX0_seek_2 : decode cX0_seek 2 = .ok (.putfield 15, 3) := by decide +kernel
theorem dX0_seek_5 : decode cX0_seek 5 = .ok (.aload_n 0, 1) := by decide +kernel
theorem dX0_seek_6 : decode cX0_seek 6 = .ok (.iconst 0, 1) := by decide +kernel
theorem dX0_seek_7 : decode cX0_seek 7 = .ok (.putfield 19, 3) := by decide +kernel
theorem dX0_seek_10 : decode cX0_seek 10 = .ok (.aload_n 0, 1) := by decide +kernel
theorem dX0_seek_11 : decode cX0_seek 11 = .ok (.iconst 0, 1) := by decide +kernel
theorem dX0_seek_12 : decode cX0_seek 12 = .ok (.putfield 22, 3) := by decide +kernel
theorem dX0_seek_15 : decode cX0_seek 15 = .ok (.aload_n 0, 1) := by decide +kernel
theorem dX0_seek_16 : decode cX0_seek 16 = .ok (.aload_n 1, 1) := by decide +kernel
theorem dX0_seek_17 : decode cX0_seek 17 = .ok (.lload_n 2, 1) := by decide +kernel
theorem dX0_seek_18 : decode cX0_seek 18 = .ok (.aload_n 1, 1) := by decide +kernel
theorem dX0_seek_19 : decode cX0_seek 19 = .ok (.lload 4, 2) := by decide +kernel
theorem dX0_seek_21 : decode cX0_seek 21 = .ok (.invokevirtual 25, 3) := by decide +kernel
theorem dX0_seek_24 : decode cX0_seek 24 = .ok (.invokevirtual 31, 3) := by decide +kernel
theorem dX0_seek_27 : decode cX0_seek 27 = .ok (.aload_n 0, 1) := by decide +kernel
theorem dX0_seek_28 : decode cX0_seek 28 = .ok (.iconst 0, 1) := by decide +kernel
theorem dX0_seek_29 : decode cX0_seek 29 = .ok (.iconst 0, 1) := by decide +kernel
theorem dX0_seek_30 : decode cX0_seek 30 = .ok (.iconst 0, 1) := by decide +kernel
theorem dX0_seek_31 : decode cX0_seek 31 = .ok (.invokevirtual 35, 3) := by decide +kernel
theorem dX0_seek_34 : decode cX0_seek 34 = .ok (.return_, 1) := by decide +kernel
theorem dX0_setSuspects_0 : decode cX0_setSuspects 0 = .ok (.aload_n 0, 1) := by decide +kernel
theorem dX0_setSuspects_1 : decode cX0_setSuspects 1 = .ok (.iconst 0, 1) := by decide +kernel
theorem dX0_setSuspects_2 : decode cX0_setSuspects 2 = .ok (.putfield 39, 3) := by decide +kernel
theorem dX0_setSuspects_5 : decode cX0_setSuspects 5 = .ok (.iconst 0, 1) := by decide +kernel
theorem dX0_setSuspects_6 : decode cX0_setSuspects 6 = .ok (.istore 5, 2) := by decide +kernel
theorem dX0_setSuspects_8 : decode cX0_setSuspects 8 = .ok (.iload 5, 2) := by decide +kernel
theorem dX0_setSuspects_10 : decode cX0_setSuspects 10 = .ok (.aload_n 1, 1) := by decide +kernel
theorem dX0_setSuspects_11 : decode cX0_setSuspects 11 = .ok (.getfield 42, 3) := by decide +kernel
theorem dX0_setSuspects_14 : decode cX0_setSuspects 14 = .ok (.if_icmp .ge 51, 3) := by decide +kernel
theorem dX0_setSuspects_17 : decode cX0_setSuspects 17 = .ok (.lload_n 2, 1) := by decide +kernel
theorem dX0_setSuspects_18 : decode cX0_setSuspects 18 = .ok (.iload 5, 2) := by decide +kernel
theorem dX0_setSuspects_20 : decode cX0_setSuspects 20 = .ok (.lshr, 1) := by decide +kernel
theorem dX0_setSuspects_21 : decode cX0_setSuspects 21 = .ok (.lconst 1, 1) := by decide +kernel
theorem dX0_setSuspects_22 : decode cX0_setSuspects 22 = .ok (.land, 1) := by decide +kernel
theorem dX0_setSuspects_23 : decode cX0_setSuspects 23 = .ok (.lconst 0, 1) := by decide +kernel
theorem dX0_setSuspects_24 : decode cX0_setSuspects 24 = .ok (.lcmp, 1) := by decide +kernel
theorem dX0_setSuspects_25 : decode cX0_setSuspects 25 = .ok (.ifCond .eq 34, 3) := by decide +kernel
theorem dX0_setSuspects_28 : decode cX0_setSuspects 28 = .ok (.aload_n 0, 1) := by decide +kernel
theorem dX0_setSuspects_29 : decode cX0_setSuspects 29 = .ok (.getfield 9, 3) := by decide +kernel
theorem dX0_setSuspects_32 : decode cX0_setSuspects 32 = .ok (.aload_n 0, 1) := by decide +kernel
theorem dX0_setSuspects_33 : decode cX0_setSuspects 33 = .ok (.getfield 39, 3) := by decide +kernel
theorem dX0_setSuspects_36 : decode cX0_setSuspects 36 = .ok (.aload_n 1, 1) := by decide +kernel
theorem dX0_setSuspects_37 : decode cX0_setSuspects 37 = .ok (.getfield 45, 3) := by decide +kernel
theorem dX0_setSuspects_40 : decode cX0_setSuspects 40 = .ok (.iload 5, 2) := by decide +kernel
theorem dX0_setSuspects_42 : decode cX0_setSuspects 42 = .ok (.iaload, 1) := by decide +kernel
theorem dX0_setSuspects_43 : decode cX0_setSuspects 43 = .ok (.iload 4, 2) := by decide +kernel
theorem dX0_setSuspects_45 : decode cX0_setSuspects 45 = .ok (.iconst (-1), 1) := by decide +kernel
theorem dX0_setSuspects_46 : decode cX0_setSuspects 46 = .ok (.ixor, 1) := by decide +kernel
theorem dX0_setSuspects_47 : decode cX0_setSuspects 47 = .ok (.iand, 1) := by decide +kernel
theorem dX0_setSuspects_48 : decode cX0_setSuspects 48 = .ok (.iastore, 1) := by decide +kernel
theorem dX0_setSuspects_49 : decode cX0_setSuspects 49 = .ok (.aload_n 0, 1) := by decide +kernel
theorem dX0_setSuspects_50 : decode cX0_setSuspects 50 = .ok (.dup, 1) := by decide +kernel
theorem dX0_setSuspects_51 : decode cX0_setSuspects 51 = .ok (.getfield 39, 3) := by decide +kernel
theorem dX0_setSuspects_54 : decode cX0_setSuspects 54 = .ok (.iconst 1, 1) := by decide +kernel
theorem dX0_setSuspects_55 : decode cX0_setSuspects 55 = .ok (.iadd, 1) := by decide +kernel
theorem dX0_setSuspects_56 : decode cX0_setSuspects 56 = .ok (.putfield 39, 3) := by decide +kernel
theorem dX0_setSuspects_59 : decode cX0_setSuspects 59 = .ok (.iinc 5 1, 3) := by decide +kernel
theorem dX0_setSuspects_62 : decode cX0_setSuspects 62 = .ok (.goto (-54), 3) := by decide +kernel
theorem dX0_setSuspects_65 : decode cX0_setSuspects 65 = .ok (.return_, 1) := by decide +kernel
set_option maxRecDepth 20000 in
theorem ggX0_blameMore_X0_firstUnexplained : GoodIn wsX0_blameMore wsX0_firstUnexplained := goodIn_r _ [6, 7, 8, 22, 23, 24, 25, 26] (by decide +kernel) (by decide +kernel)
set_option maxRecDepth 20000 in
theorem gX0_blameMore_X0_firstUnexplained : GoodIn wsX0_blameMore (wsV RX0 48 RX0 yX0_firstUnexplained wsX0_firstUnexplained) := goodIn_app (goodIn_of _ (by decide +kernel)) ggX0_blameMore_X0_firstUnexplained
set_option maxRecDepth 20000 in
theorem ggX0_blameMore_X0_keep : GoodIn wsX0_blameMore wsX0_keep := goodIn_r _ [12, 1, 13, 14, 22, 23, 24, 25, 26] (by decide +kernel) (by decide +kernel)
set_option maxRecDepth 20000 in
theorem gX0_blameMore_X0_keep : GoodIn wsX0_blameMore (wsV RX0 52 RX0 yX0_keep wsX0_keep) := goodIn_app (goodIn_of _ (by decide +kernel)) ggX0_blameMore_X0_keep
set_option maxRecDepth 20000 in
theorem ggX0_blameMore_X0_blameEach : GoodIn wsX0_blameMore wsX0_blameEach := goodIn_r _ [18, 19, 20, 21, 5, 0, 1, 2, 3, 4, 6, 7, 8, 9, 10, 11, 12, 13, 14, 15, 16, 17, 22, 23, 24, 25, 26] (by decide +kernel) (by decide +kernel)
set_option maxRecDepth 20000 in
theorem gX0_blameMore_X0_blameEach : GoodIn wsX0_blameMore (wsV RX0 56 RX0 yX0_blameEach wsX0_blameEach) := goodIn_app (goodIn_of _ (by decide +kernel)) ggX0_blameMore_X0_blameEach
theorem dX0_blameMore_0 : decode cX0_blameMore 0 = .ok (.aload_n 0, 1) := by decide +kernel
theorem dX0_blameMore_1 : decode cX0_blameMore 1 = .ok (.iload_n 1, 1) := by decide +kernel
theorem dX0_blameMore_2 : decode cX0_blameMore 2 = .ok (.invokevirtual 48, 3) := by decide +kernel
theorem dX0_blameMore_5 : decode cX0_blameMore 5 = .ok (.istore 4, 2) := by decide +kernel
theorem dX0_blameMore_7 : decode cX0_blameMore 7 = .ok (.iload 4, 2) := by decide +kernel
theorem dX0_blameMore_9 : decode cX0_blameMore 9 = .ok (.iconst (-1), 1) := by decide +kernel
theorem dX0_blameMore_10 : decode cX0_blameMore 10 = .ok (.if_icmp .ne 12, 3) := by decide +kernel
theorem dX0_blameMore_13 : decode cX0_blameMore 13 = .ok (.aload_n 0, 1) := by decide +kernel
theorem dX0_blameMore_14 : decode cX0_blameMore 14 = .ok (.iload_n 1, 1) := by decide +kernel
theorem dX0_blameMore_15 : decode cX0_blameMore 15 = .ok (.iload_n 3, 1) := by decide +kernel
theorem dX0_blameMore_16 : decode cX0_blameMore 16 = .ok (.invokevirtual 52, 3) := by decide +kernel
theorem dX0_blameMore_19 : decode cX0_blameMore 19 = .ok (.goto 34, 3) := by decide +kernel
theorem dX0_blameMore_22 : decode cX0_blameMore 22 = .ok (.iload_n 3, 1) := by decide +kernel
theorem dX0_blameMore_23 : decode cX0_blameMore 23 = .ok (.bipush 12, 2) := by decide +kernel
theorem dX0_blameMore_25 : decode cX0_blameMore 25 = .ok (.if_icmp .ge 28, 3) := by decide +kernel
theorem dX0_blameMore_28 : decode cX0_blameMore 28 = .ok (.aload_n 0, 1) := by decide +kernel
theorem dX0_blameMore_29 : decode cX0_blameMore 29 = .ok (.getfield 15, 3) := by decide +kernel
theorem dX0_blameMore_32 : decode cX0_blameMore 32 = .ok (.iconst (-1), 1) := by decide +kernel
theorem dX0_blameMore_33 : decode cX0_blameMore 33 = .ok (.if_icmp .eq 11, 3) := by decide +kernel
theorem dX0_blameMore_36 : decode cX0_blameMore 36 = .ok (.iload_n 3, 1) := by decide +kernel
theorem dX0_blameMore_37 : decode cX0_blameMore 37 = .ok (.aload_n 0, 1) := by decide +kernel
theorem dX0_blameMore_38 : decode cX0_blameMore 38 = .ok (.getfield 15, 3) := by decide +kernel
theorem dX0_blameMore_41 : decode cX0_blameMore 41 = .ok (.if_icmp .ge 12, 3) := by decide +kernel
theorem dX0_blameMore_44 : decode cX0_blameMore 44 = .ok (.aload_n 0, 1) := by decide +kernel
theorem dX0_blameMore_45 : decode cX0_blameMore 45 = .ok (.iload 4, 2) := by decide +kernel
theorem dX0_blameMore_47 : decode cX0_blameMore 47 = .ok (.iload_n 1, 1) := by decide +kernel
theorem dX0_blameMore_48 : decode cX0_blameMore 48 = .ok (.iload_n 2, 1) := by decide +kernel
theorem dX0_blameMore_49 : decode cX0_blameMore 49 = .ok (.iload_n 3, 1) := by decide +kernel
theorem dX0_blameMore_50 : decode cX0_blameMore 50 = .ok (.invokevirtual 56, 3) := by decide +kernel
theorem dX0_blameMore_53 : decode cX0_blameMore 53 = .ok (.return_, 1) := by decide +kernel
set_option maxRecDepth 20000 in
theorem ggX0_blameEach_X0_blameMore : GoodIn wsX0_blameEach wsX0_blameMore := goodIn_r _ [5, 6, 7, 8, 9, 4, 10, 11, 12, 13, 14, 15, 16, 17, 18, 19, 20, 21, 0, 1, 2, 3, 22, 23, 24, 25, 26] (by decide +kernel) (by decide +kernel)
set_option maxRecDepth 20000 in
theorem gX0_blameEach_X0_blameMore : GoodIn wsX0_blameEach (wsV RX0 35 RX0 yX0_blameMore wsX0_blameMore) := goodIn_app (goodIn_of _ (by decide +kernel)) ggX0_blameEach_X0_blameMore
theorem dX0_blameEach_0 : decode cX0_blameEach 0 = .ok (.iload_n 3, 1) := by decide +kernel
theorem dX0_blameEach_1 : decode cX0_blameEach 1 = .ok (.istore 5, 2) := by decide +kernel
theorem dX0_blameEach_3 : decode cX0_blameEach 3 = .ok (.iconst 0, 1) := by decide +kernel
theorem dX0_blameEach_4 : decode cX0_blameEach 4 = .ok (.istore 6, 2) := by decide +kernel
theorem dX0_blameEach_6 : decode cX0_blameEach 6 = .ok (.iload 6, 2) := by decide +kernel
theorem dX0_blameEach_8 : decode cX0_blameEach 8 = .ok (.bipush 12, 2) := by decide +kernel
theorem dX0_blameEach_10 : decode cX0_blameEach 10 = .ok (.if_icmp .ge 48, 3) := by decide +kernel
theorem dX0_blameEach_13 : decode cX0_blameEach 13 = .ok (.iconst 1, 1) := by decide +kernel
theorem dX0_blameEach_14 : decode cX0_blameEach 14 = .ok (.iload 6, 2) := by decide +kernel
theorem dX0_blameEach_16 : decode cX0_blameEach 16 = .ok (.ishl, 1) := by decide +kernel
theorem dX0_blameEach_17 : decode cX0_blameEach 17 = .ok (.istore 7, 2) := by decide +kernel
theorem dX0_blameEach_19 : decode cX0_blameEach 19 = .ok (.iload_n 1, 1) := by decide +kernel
theorem dX0_blameEach_20 : decode cX0_blameEach 20 = .ok (.iload 5, 2) := by decide +kernel
theorem dX0_blameEach_22 : decode cX0_blameEach 22 = .ok (.iconst (-1), 1) := by decide +kernel
theorem dX0_blameEach_23 : decode cX0_blameEach 23 = .ok (.ixor, 1) := by decide +kernel
theorem dX0_blameEach_24 : decode cX0_blameEach 24 = .ok (.iand, 1) := by decide +kernel
theorem dX0_blameEach_25 : decode cX0_blameEach 25 = .ok (.iload 7, 2) := by decide +kernel
theorem dX0_blameEach_27 : decode cX0_blameEach 27 = .ok (.iand, 1) := by decide +kernel
theorem dX0_blameEach_28 : decode cX0_blameEach 28 = .ok (.ifCond .eq 24, 3) := by decide +kernel
theorem dX0_blameEach_31 : decode cX0_blameEach 31 = .ok (.aload_n 0, 1) := by decide +kernel
theorem dX0_blameEach_32 : decode cX0_blameEach 32 = .ok (.iload_n 2, 1) := by decide +kernel
theorem dX0_blameEach_33 : decode cX0_blameEach 33 = .ok (.iload 7, 2) := by decide +kernel
theorem dX0_blameEach_35 : decode cX0_blameEach 35 = .ok (.ior, 1) := by decide +kernel
theorem dX0_blameEach_36 : decode cX0_blameEach 36 = .ok (.iload 5, 2) := by decide +kernel
theorem dX0_blameEach_38 : decode cX0_blameEach 38 = .ok (.iload 4, 2) := by decide +kernel
theorem dX0_blameEach_40 : decode cX0_blameEach 40 = .ok (.iconst 1, 1) := by decide +kernel
theorem dX0_blameEach_41 : decode cX0_blameEach 41 = .ok (.iadd, 1) := by decide +kernel
theorem dX0_blameEach_42 : decode cX0_blameEach 42 = .ok (.invokevirtual 35, 3) := by decide +kernel
theorem dX0_blameEach_45 : decode cX0_blameEach 45 = .ok (.iload 5, 2) := by decide +kernel
theorem dX0_blameEach_47 : decode cX0_blameEach 47 = .ok (.iload 7, 2) := by decide +kernel
theorem dX0_blameEach_49 : decode cX0_blameEach 49 = .ok (.ior, 1) := by decide +kernel
theorem dX0_blameEach_50 : decode cX0_blameEach 50 = .ok (.istore 5, 2) := by decide +kernel
theorem dX0_blameEach_52 : decode cX0_blameEach 52 = .ok (.iinc 6 1, 3) := by decide +kernel
theorem dX0_blameEach_55 : decode cX0_blameEach 55 = .ok (.goto (-49), 3) := by decide +kernel
theorem dX0_blameEach_58 : decode cX0_blameEach 58 = .ok (.return_, 1) := by decide +kernel
theorem dX0_firstUnexplained_0 : decode cX0_firstUnexplained 0 = .ok (.iconst 0, 1) := by decide +kernel
theorem dX0_firstUnexplained_1 : decode cX0_firstUnexplained 1 = .ok (.istore_n 2, 1) := by decide +kernel
theorem dX0_firstUnexplained_2 : decode cX0_firstUnexplained 2 = .ok (.iload_n 2, 1) := by decide +kernel
theorem dX0_firstUnexplained_3 : decode cX0_firstUnexplained 3 = .ok (.aload_n 0, 1) := by decide +kernel
theorem dX0_firstUnexplained_4 : decode cX0_firstUnexplained 4 = .ok (.getfield 39, 3) := by decide +kernel
theorem dX0_firstUnexplained_7 : decode cX0_firstUnexplained 7 = .ok (.if_icmp .ge 27, 3) := by decide +kernel
theorem dX0_firstUnexplained_10 : decode cX0_firstUnexplained 10 = .ok (.aload_n 0, 1) := by decide +kernel
theorem dX0_firstUnexplained_11 : decode cX0_firstUnexplained 11 = .ok (.getfield 9, 3) := by decide +kernel
theorem dX0_firstUnexplained_14 : decode cX0_firstUnexplained 14 = .ok (.iload_n 2, 1) := by decide +kernel
theorem dX0_firstUnexplained_15 : decode cX0_firstUnexplained 15 = .ok (.iaload, 1) := by decide +kernel
theorem dX0_firstUnexplained_16 : decode cX0_firstUnexplained 16 = .ok (.iload_n 1, 1) := by decide +kernel
theorem dX0_firstUnexplained_17 : decode cX0_firstUnexplained 17 = .ok (.iand, 1) := by decide +kernel
theorem dX0_firstUnexplained_18 : decode cX0_firstUnexplained 18 = .ok (.ifCond .ne 10, 3) := by decide +kernel
theorem dX0_firstUnexplained_21 : decode cX0_firstUnexplained 21 = .ok (.aload_n 0, 1) := by decide +kernel
theorem dX0_firstUnexplained_22 : decode cX0_firstUnexplained 22 = .ok (.getfield 9, 3) := by decide +kernel
theorem dX0_firstUnexplained_25 : decode cX0_firstUnexplained 25 = .ok (.iload_n 2, 1) := by decide +kernel
theorem dX0_firstUnexplained_26 : decode cX0_firstUnexplained 26 = .ok (.iaload, 1) := by decide +kernel
theorem dX0_firstUnexplained_27 : decode cX0_firstUnexplained 27 = .ok (.ireturn, 1) := by decide +kernel
theorem dX0_firstUnexplained_28 : decode cX0_firstUnexplained 28 = .ok (.iinc 2 1, 3) := by decide +kernel
theorem dX0_firstUnexplained_31 : decode cX0_firstUnexplained 31 = .ok (.goto (-29), 3) := by decide +kernel
theorem dX0_firstUnexplained_34 : decode cX0_firstUnexplained 34 = .ok (.iconst (-1), 1) := by decide +kernel
theorem dX0_firstUnexplained_35 : decode cX0_firstUnexplained 35 = .ok (.ireturn, 1) := by decide +kernel
theorem dX0_keep_0 : decode cX0_keep 0 = .ok (.aload_n 0, 1) := by decide +kernel
theorem dX0_keep_1 : decode cX0_keep 1 = .ok (.getfield 15, 3) := by decide +kernel
theorem dX0_keep_4 : decode cX0_keep 4 = .ok (.iconst (-1), 1) := by decide +kernel
theorem dX0_keep_5 : decode cX0_keep 5 = .ok (.if_icmp .eq 11, 3) := by decide +kernel
theorem dX0_keep_8 : decode cX0_keep 8 = .ok (.iload_n 2, 1) := by decide +kernel
theorem dX0_keep_9 : decode cX0_keep 9 = .ok (.aload_n 0, 1) := by decide +kernel
theorem dX0_keep_10 : decode cX0_keep 10 = .ok (.getfield 15, 3) := by decide +kernel
theorem dX0_keep_13 : decode cX0_keep 13 = .ok (.if_icmp .ge 21, 3) := by decide +kernel
theorem dX0_keep_16 : decode cX0_keep 16 = .ok (.aload_n 0, 1) := by decide +kernel
theorem dX0_keep_17 : decode cX0_keep 17 = .ok (.iload_n 2, 1) := by decide +kernel
theorem dX0_keep_18 : decode cX0_keep 18 = .ok (.putfield 15, 3) := by decide +kernel
theorem dX0_keep_21 : decode cX0_keep 21 = .ok (.aload_n 0, 1) := by decide +kernel
theorem dX0_keep_22 : decode cX0_keep 22 = .ok (.iconst 1, 1) := by decide +kernel
theorem dX0_keep_23 : decode cX0_keep 23 = .ok (.putfield 19, 3) := by decide +kernel
theorem dX0_keep_26 : decode cX0_keep 26 = .ok (.aload_n 0, 1) := by decide +kernel
theorem dX0_keep_27 : decode cX0_keep 27 = .ok (.iload_n 1, 1) := by decide +kernel
theorem dX0_keep_28 : decode cX0_keep 28 = .ok (.putfield 22, 3) := by decide +kernel
theorem dX0_keep_31 : decode cX0_keep 31 = .ok (.goto 31, 3) := by decide +kernel
theorem dX0_keep_34 : decode cX0_keep 34 = .ok (.iload_n 2, 1) := by decide +kernel
theorem dX0_keep_35 : decode cX0_keep 35 = .ok (.aload_n 0, 1) := by decide +kernel
theorem dX0_keep_36 : decode cX0_keep 36 = .ok (.getfield 15, 3) := by decide +kernel
theorem dX0_keep_39 : decode cX0_keep 39 = .ok (.if_icmp .ne 23, 3) := by decide +kernel
theorem dX0_keep_42 : decode cX0_keep 42 = .ok (.aload_n 0, 1) := by decide +kernel
theorem dX0_keep_43 : decode cX0_keep 43 = .ok (.dup, 1) := by decide +kernel
theorem dX0_keep_44 : decode cX0_keep 44 = .ok (.getfield 19, 3) := by decide +kernel
theorem dX0_keep_47 : decode cX0_keep 47 = .ok (.iconst 1, 1) := by decide +kernel
theorem dX0_keep_48 : decode cX0_keep 48 = .ok (.iadd, 1) := by decide +kernel
theorem dX0_keep_49 : decode cX0_keep 49 = .ok (.putfield 19, 3) := by decide +kernel
theorem dX0_keep_52 : decode cX0_keep 52 = .ok (.aload_n 0, 1) := by decide +kernel
theorem dX0_keep_53 : decode cX0_keep 53 = .ok (.dup, 1) := by decide +kernel
theorem dX0_keep_54 : decode cX0_keep 54 = .ok (.getfield 22, 3) := by decide +kernel
theorem dX0_keep_57 : decode cX0_keep 57 = .ok (.iload_n 1, 1) := by decide +kernel
theorem dX0_keep_58 : decode cX0_keep 58 = .ok (.iand, 1) := by decide +kernel
theorem dX0_keep_59 : decode cX0_keep 59 = .ok (.putfield 22, 3) := by decide +kernel
theorem dX0_keep_62 : decode cX0_keep 62 = .ok (.return_, 1) := by decide +kernel
theorem dX1_init_0 : decode cX1_init 0 = .ok (.aload_n 0, 1) := by decide +kernel
theorem dX1_init_1 : decode cX1_init 1 = .ok (.invokespecial 3, 3) := by decide +kernel
theorem dX1_init_4 : decode cX1_init 4 = .ok (.aload_n 0, 1) := by decide +kernel
theorem dX1_init_5 : decode cX1_init 5 = .ok (.bipush 6, 2) := by decide +kernel
theorem dX1_init_7 : decode cX1_init 7 = .ok (.newarray .int, 2) := by decide +kernel
theorem dX1_init_9 : decode cX1_init 9 = .ok (.putfield 9, 3) := by decide +kernel
theorem dX1_init_12 : decode cX1_init 12 = .ok (.aload_n 0, 1) := by decide +kernel
theorem dX1_init_13 : decode cX1_init 13 = .ok (.bipush 6, 2) := by decide +kernel
theorem dX1_init_15 : decode cX1_init 15 = .ok (.newarray .int, 2) := by decide +kernel
theorem dX1_init_17 : decode cX1_init 17 = .ok (.putfield 15, 3) := by decide +kernel
theorem dX1_init_20 : decode cX1_init 20 = .ok (.aload_n 0, 1) := by decide +kernel
theorem dX1_init_21 : decode cX1_init 21 = .ok (.bipush 6, 2) := by decide +kernel
theorem dX1_init_23 : decode cX1_init 23 = .ok (.newarray .int, 2) := by decide +kernel
theorem dX1_init_25 : decode cX1_init 25 = .ok (.putfield 18, 3) := by decide +kernel
theorem dX1_init_28 : decode cX1_init 28 = .ok (.aload_n 0, 1) := by decide +kernel
theorem dX1_init_29 : decode cX1_init 29 = .ok (.bipush 6, 2) := by decide +kernel
theorem dX1_init_31 : decode cX1_init 31 = .ok (.newarray .int, 2) := by decide +kernel
theorem dX1_init_33 : decode cX1_init 33 = .ok (.putfield 21, 3) := by decide +kernel
theorem dX1_init_36 : decode cX1_init 36 = .ok (.aload_n 0, 1) := by decide +kernel
theorem dX1_init_37 : decode cX1_init 37 = .ok (.bipush 6, 2) := by decide +kernel
theorem dX1_init_39 : decode cX1_init 39 = .ok (.newarray .int, 2) := by decide +kernel
theorem dX1_init_41 : decode cX1_init 41 = .ok (.putfield 24, 3) := by decide +kernel
theorem dX1_init_44 : decode cX1_init 44 = .ok (.aload_n 0, 1) := by decide +kernel
theorem dX1_init_45 : decode cX1_init 45 = .ok (.iconst (-1), 1) := by decide +kernel
theorem dX1_init_46 : decode cX1_init 46 = .ok (.putfield 27, 3) := by decide +kernel
theorem dX1_init_49 : decode cX1_init 49 = .ok (.aload_n 0, 1) := by decide +kernel
theorem dX1_init_50 : decode cX1_init 50 = .ok (.bipush 6, 2) := by decide +kernel
theorem dX1_init_52 : decode cX1_init 52 = .ok (.newarray .int, 2) := by decide +kernel
theorem dX1_init_54 : decode cX1_init 54 = .ok (.putfield 31, 3) := by decide +kernel
theorem dX1_init_57 : decode cX1_init 57 = .ok (.aload_n 0, 1) := by decide +kernel
theorem dX1_init_58 : decode cX1_init 58 = .ok (.bipush 7, 2) := by decide +kernel
theorem dX1_init_60 : decode cX1_init 60 = .ok (.newarray .int, 2) := by decide +kernel
theorem dX1_init_62 : decode cX1_init 62 = .ok (.putfield 34, 3) := by decide +kernel
theorem dX1_init_65 : decode cX1_init 65 = .ok (.aload_n 0, 1) := by decide +kernel
theorem dX1_init_66 : decode cX1_init 66 = .ok (.bipush 7, 2) := by decide +kernel
theorem dX1_init_68 : decode cX1_init 68 = .ok (.newarray .int, 2) := by decide +kernel
theorem dX1_init_70 : decode cX1_init 70 = .ok (.putfield 37, 3) := by decide +kernel
theorem dX1_init_73 : decode cX1_init 73 = .ok (.aload_n 0, 1) := by decide +kernel
theorem dX1_init_74 : decode cX1_init 74 = .ok (.bipush 7, 2) := by decide +kernel
theorem dX1_init_76 : decode cX1_init 76 = .ok (.newarray .int, 2) := by decide +kernel
theorem dX1_init_78 : decode cX1_init 78 = .ok (.putfield 40, 3) := by decide +kernel
theorem dX1_init_81 : decode cX1_init 81 = .ok (.aload_n 0, 1) := by decide +kernel
theorem dX1_init_82 : decode cX1_init 82 = .ok (.bipush 7, 2) := by decide +kernel
theorem dX1_init_84 : decode cX1_init 84 = .ok (.newarray .int, 2) := by decide +kernel
theorem dX1_init_86 : decode cX1_init 86 = .ok (.putfield 43, 3) := by decide +kernel
theorem dX1_init_89 : decode cX1_init 89 = .ok (.return_, 1) := by decide +kernel
theorem dX1_add_0 : decode cX1_add 0 = .ok (.aload_n 0, 1) := by decide +kernel
theorem dX1_add_1 : decode cX1_add 1 = .ok (.getfield 46, 3) := by decide +kernel
theorem dX1_add_4 : decode cX1_add 4 = .ok (.istore 5, 2) := by decide +kernel
theorem dX1_add_6 : decode cX1_add 6 = .ok (.aload_n 0, 1) := by decide +kernel
theorem dX1_add_7 : decode cX1_add 7 = .ok (.getfield 9, 3) := by decide +kernel
theorem dX1_add_10 : decode cX1_add 10 = .ok (.iload 5, 2) := by decide +kernel
theorem dX1_add_12 : decode cX1_add 12 = .ok (.iload_n 1, 1) := by decide +kernel
theorem dX1_add_13 : decode cX1_add 13 = .ok (.iastore, 1) := by decide +kernel
theorem dX1_add_14 : decode cX1_add 14 = .ok (.aload_n 0, 1) := by decide +kernel
theorem dX1_add_15 : decode cX1_add 15 = .ok (.getfield 15, 3) := by decide +kernel
theorem dX1_add_18 : decode cX1_add 18 = .ok (.iload 5, 2) := by decide +kernel
theorem dX1_add_20 : decode cX1_add 20 = .ok (.iload_n 2, 1) := by decide +kernel
theorem dX1_add_21 : decode cX1_add 21 = .ok (.iastore, 1) := by decide +kernel
theorem dX1_add_22 : decode cX1_add 22 = .ok (.aload_n 0, 1) := by decide +kernel
theorem dX1_add_23 : decode cX1_add 23 = .ok (.getfield 18, 3) := by decide +kernel
theorem dX1_add_26 : decode cX1_add 26 = .ok (.iload 5, 2) := by decide +kernel
theorem dX1_add_28 : decode cX1_add 28 = .ok (.iload_n 3, 1) := by decide +kernel
theorem dX1_add_29 : decode cX1_add 29 = .ok (.iastore, 1) := by decide +kernel
theorem dX1_add_30 : decode cX1_add 30 = .ok (.aload_n 0, 1) := by decide +kernel
theorem dX1_add_31 : decode cX1_add 31 = .ok (.getfield 21, 3) := by decide +kernel
theorem dX1_add_34 : decode cX1_add 34 = .ok (.iload 5, 2) := by decide +kernel
theorem dX1_add_36 : decode cX1_add 36 = .ok (.iload 4, 2) := by decide +kernel
theorem dX1_add_38 : decode cX1_add 38 = .ok (.iastore, 1) := by decide +kernel
theorem dX1_add_39 : decode cX1_add 39 = .ok (.aload_n 0, 1) := by decide +kernel
theorem dX1_add_40 : decode cX1_add 40 = .ok (.dup, 1) := by decide +kernel
theorem dX1_add_41 : decode cX1_add 41 = .ok (.getfield 46, 3) := by decide +kernel
theorem dX1_add_44 : decode cX1_add 44 = .ok (.iconst 1, 1) := by decide +kernel
theorem dX1_add_45 : decode cX1_add 45 = .ok (.iadd, 1) := by decide +kernel
theorem dX1_add_46 : decode cX1_add 46 = .ok (.putfield 46, 3) := by decide +kernel
theorem dX1_add_49 : decode cX1_add 49 = .ok (.iload 5, 2) := by decide +kernel
theorem dX1_add_51 : decode cX1_add 51 = .ok (.ireturn, 1) := by decide +kernel
set_option maxRecDepth 20000 in
theorem ggX1_seek_X1_setBounds : GoodIn wsX1_seek wsX1_setBounds := goodIn_r _ [8, 9, 10, 11, 12, 13, 14, 15, 16, 17, 18, 19, 20, 21, 22, 23, 24, 45, 46, 47, 48, 49, 50, 51, 52, 53, 54, 55, 56, 57, 58, 59, 60] (by decide +kernel) (by decide +kernel)
set_option maxRecDepth 20000 in
theorem gX1_seek_X1_setBounds : GoodIn wsX1_seek (wsV RX1 55 RX1 yX1_setBounds wsX1_setBounds) := goodIn_app (goodIn_of _ (by decide +kernel)) ggX1_seek_X1_setBounds
set_option maxRecDepth 20000 in
theorem ggX1_seek_X1_choose : GoodIn wsX1_seek wsX1_choose := goodIn_r _ [28, 10, 29, 30, 31, 7, 32, 9, 1, 11, 12, 2, 13, 3, 33, 34, 35, 36, 37, 38, 39, 40, 41, 42, 43, 44, 14, 16, 17, 18, 19, 15, 20, 24, 25, 26, 27, 45, 46, 47, 48, 49, 50, 51, 52, 53, 54, 55, 56, 57, 58, 59, 60] (by decide +kernel) (by decide +kernel)
set_option maxRecDepth 20000 in
theorem gX1_seek_X1_choose : GoodIn wsX1_seek (wsV RX1 58 RX1 yX1_choose wsX1_choose) := goodIn_app (goodIn_of _ (by decide +kernel)) ggX1_seek_X1_choose
theorem dX1_seek_0 : decode cX1_seek 0 = .ok (.aload_n 0, 1) := by decide +kernel
theorem dX1_seek_1 : decode cX1_seek 1 = .ok (.iconst (-1), 1) := by decide +kernel
theorem dX1_seek_2 : decode cX1_seek 2 = .ok (.putfield 27, 3) := by decide +kernel
theorem dX1_seek_5 : decode cX1_seek 5 = .ok (.aload_n 0, 1) := by decide +kernel
theorem dX1_seek_6 : decode cX1_seek 6 = .ok (.iload_n 1, 1) := by decide +kernel
theorem dX1_seek_7 : decode cX1_seek 7 = .ok (.bipush 10, 2) := by decide +kernel
theorem dX1_seek_9 : decode cX1_seek 9 = .ok (.imul, 1) := by decide +kernel
theorem dX1_seek_10 : decode cX1_seek 10 = .ok (.putfield 49, 3) := by decide +kernel
theorem dX1_seek_13 : decode cX1_seek 13 = .ok (.aload_n 0, 1) := by decide +kernel
theorem dX1_seek_14 : decode cX1_seek 14 = .ok (.iload_n 2, 1) := by decide +kernel
theorem dX1_seek_15 : decode cX1_seek 15 = .ok (.bipush 10, 2) := by decide +kernel
theorem dX1_seek_17 : decode cX1_seek 17 = .ok (.imul, 1) := by decide +kernel
theorem dX1_seek_18 : decode cX1_seek 18 = .ok (.putfield 52, 3) := by decide +kernel
theorem dX1_seek_21 : decode cX1_seek 21 = .ok (.aload_n 0, 1) := by decide +kernel
theorem dX1_seek_22 : decode cX1_seek 22 = .ok (.invokevirtual 55, 3) := by decide +kernel
theorem dX1_seek_25 : decode cX1_seek 25 = .ok (.aload_n 0, 1) := by decide +kernel
theorem dX1_seek_26 : decode cX1_seek 26 = .ok (.iconst 0, 1) := by decide +kernel
theorem dX1_seek_27 : decode cX1_seek 27 = .ok (.bipush 10, 2) := by decide +kernel
theorem dX1_seek_29 : decode cX1_seek 29 = .ok (.iconst 0, 1) := by decide +kernel
theorem dX1_seek_30 : decode cX1_seek 30 = .ok (.iconst 0, 1) := by decide +kernel
theorem dX1_seek_31 : decode cX1_seek 31 = .ok (.iconst 0, 1) := by decide +kernel
theorem dX1_seek_32 : decode cX1_seek 32 = .ok (.invokevirtual 58, 3) := by decide +kernel
theorem dX1_seek_35 : decode cX1_seek 35 = .ok (.return_, 1) := by decide +kernel
theorem dX1_takeBest_0 : decode cX1_takeBest 0 = .ok (.iconst 0, 1) := by decide +kernel
theorem dX1_takeBest_1 : decode cX1_takeBest 1 = .ok (.istore_n 1, 1) := by decide +kernel
theorem dX1_takeBest_2 : decode cX1_takeBest 2 = .ok (.iload_n 1, 1) := by decide +kernel
theorem dX1_takeBest_3 : decode cX1_takeBest 3 = .ok (.aload_n 0, 1) := by decide +kernel
theorem dX1_takeBest_4 : decode cX1_takeBest 4 = .ok (.getfield 46, 3) := by decide +kernel
theorem dX1_takeBest_7 : decode cX1_takeBest 7 = .ok (.if_icmp .ge 24, 3) := by decide +kernel
theorem dX1_takeBest_10 : decode cX1_takeBest 10 = .ok (.aload_n 0, 1) := by decide +kernel
theorem dX1_takeBest_11 : decode cX1_takeBest 11 = .ok (.getfield 21, 3) := by decide +kernel
theorem dX1_takeBest_14 : decode cX1_takeBest 14 = .ok (.iload_n 1, 1) := by decide +kernel
theorem dX1_takeBest_15 : decode cX1_takeBest 15 = .ok (.dup2, 1) := by decide +kernel
theorem dX1_takeBest_16 : decode cX1_takeBest 16 = .ok (.iaload, 1) := by decide +kernel
theorem dX1_takeBest_17 : decode cX1_takeBest 17 = .ok (.aload_n 0, 1) := by decide +kernel
theorem dX1_takeBest_18 : decode cX1_takeBest 18 = .ok (.getfield 24, 3) := by decide +kernel
theorem dX1_takeBest_21 : decode cX1_takeBest 21 = .ok (.iload_n 1, 1) := by decide +kernel
theorem dX1_takeBest_22 : decode cX1_takeBest 22 = .ok (.iaload, 1) := by decide +kernel
theorem dX1_takeBest_23 : decode cX1_takeBest 23 = .ok (.isub, 1) := by decide +kernel
theorem dX1_takeBest_24 : decode cX1_takeBest 24 = .ok (.iastore, 1) := by decide +kernel
theorem dX1_takeBest_25 : decode cX1_takeBest 25 = .ok (.iinc 1 1, 3) := by decide +kernel
theorem dX1_takeBest_28 : decode cX1_takeBest 28 = .ok (.goto (-26), 3) := by decide +kernel
theorem dX1_takeBest_31 : decode cX1_takeBest 31 = .ok (.return_, 1) := by decide +kernel
theorem dX1_setBounds_0 : decode cX1_setBounds 0 = .ok (.aload_n 0, 1) := by decide +kernel
theorem dX1_setBounds_1 : decode cX1_setBounds 1 = .ok (.getfield 34, 3) := by decide +kernel
theorem dX1_setBounds_4 : decode cX1_setBounds 4 = .ok (.aload_n 0, 1) := by decide +kernel
theorem dX1_setBounds_5 : decode cX1_setBounds 5 = .ok (.getfield 46, 3) := by decide +kernel
theorem dX1_setBounds_8 : decode cX1_setBounds 8 = .ok (.iconst 0, 1) := by decide +kernel
theorem dX1_setBounds_9 : decode cX1_setBounds 9 = .ok (.iastore, 1) := by decide +kernel
theorem dX1_setBounds_10 : decode cX1_setBounds 10 = .ok (.aload_n 0, 1) := by decide +kernel
theorem dX1_setBounds_11 : decode cX1_setBounds 11 = .ok (.getfield 37, 3) := by decide +kernel
theorem dX1_setBounds_14 : decode cX1_setBounds 14 = .ok (.aload_n 0, 1) := by decide +kernel
theorem dX1_setBounds_15 : decode cX1_setBounds 15 = .ok (.getfield 46, 3) := by decide +kernel
theorem dX1_setBounds_18 : decode cX1_setBounds 18 = .ok (.sipush 1000, 3) := by decide +kernel
theorem dX1_setBounds_21 : decode cX1_setBounds 21 = .ok (.iastore, 1) := by decide +kernel
theorem dX1_setBounds_22 : decode cX1_setBounds 22 = .ok (.aload_n 0, 1) := by decide +kernel
theorem dX1_setBounds_23 : decode cX1_setBounds 23 = .ok (.getfield 40, 3) := by decide +kernel
theorem dX1_setBounds_26 : decode cX1_setBounds 26 = .ok (.aload_n 0, 1) := by decide +kernel
theorem dX1_setBounds_27 : decode cX1_setBounds 27 = .ok (.getfield 46, 3) := by decide +kernel
theorem dX1_setBounds_30 : decode cX1_setBounds 30 = .ok (.iconst 0, 1) := by decide +kernel
theorem dX1_setBounds_31 : decode cX1_setBounds 31 = .ok (.iastore, 1) := by decide +kernel
theorem dX1_setBounds_32 : decode cX1_setBounds 32 = .ok (.aload_n 0, 1) := by decide +kernel
theorem dX1_setBounds_33 : decode cX1_setBounds 33 = .ok (.getfield 43, 3) := by decide +kernel
theorem dX1_setBounds_36 : decode cX1_setBounds 36 = .ok (.aload_n 0, 1) := by decide +kernel
theorem dX1_setBounds_37 : decode cX1_setBounds 37 = .ok (.getfield 46, 3) := by decide +kernel
theorem dX1_setBounds_40 : decode cX1_setBounds 40 = .ok (.sipush 1000, 3) := by decide +kernel
theorem dX1_setBounds_43 : decode cX1_setBounds 43 = .ok (.iastore, 1) := by decide +kernel
theorem dX1_setBounds_44 : decode cX1_setBounds 44 = .ok (.aload_n 0, 1) := by decide +kernel
theorem dX1_setBounds_45 : decode cX1_setBounds 45 = .ok (.getfield 46, 3) := by decide +kernel
theorem dX1_setBounds_48 : decode cX1_setBounds 48 = .ok (.iconst 1, 1) := by decide +kernel
theorem dX1_setBounds_49 : decode cX1_setBounds 49 = .ok (.isub, 1) := by decide +kernel
theorem dX1_setBounds_50 : decode cX1_setBounds 50 = .ok (.istore_n 1, 1) := by decide +kernel
theorem dX1_setBounds_51 : decode cX1_setBounds 51 = .ok (.iload_n 1, 1) := by decide +kernel
theorem dX1_setBounds_52 : decode cX1_setBounds 52 = .ok (.ifCond .lt 99, 3) := by decide +kernel
theorem dX1_setBounds_55 : decode cX1_setBounds 55 = .ok (.aload_n 0, 1) := by decide +kernel
theorem dX1_setBounds_56 : decode cX1_setBounds 56 = .ok (.getfield 34, 3) := by decide +kernel
theorem dX1_setBounds_59 : decode cX1_setBounds 59 = .ok (.iload_n 1, 1) := by decide +kernel
theorem dX1_setBounds_60 : decode cX1_setBounds 60 = .ok (.aload_n 0, 1) := by decide +kernel
theorem dX1_setBounds_61 : decode cX1_setBounds 61 = .ok (.getfield 34, 3) := by decide +kernel
theorem dX1_setBounds_64 : decode cX1_setBounds 64 = .ok (.iload_n 1, 1) := by decide +kernel
theorem dX1_setBounds_65 : decode cX1_setBounds 65 = .ok (.iconst 1, 1) := by decide +kernel
theorem dX1_setBounds_66 : decode cX1_setBounds 66 = .ok (.iadd, 1) := by decide +kernel
theorem dX1_setBounds_67 : decode cX1_setBounds 67 = .ok (.iaload, 1) := by decide +kernel
theorem dX1_setBounds_68 : decode cX1_setBounds 68 = .ok (.aload_n 0, 1) := by decide +kernel
theorem dX1_setBounds_69 : decode cX1_setBounds 69 = .ok (.getfield 21, 3) := by decide +kernel
theorem dX1_setBounds_72 : decode cX1_setBounds 72 = .ok (.iload_n 1, 1) := by decide +kernel
theorem dX1_setBounds_73 : decode cX1_setBounds 73 = .ok (.iaload, 1) := by decide +kernel
theorem dX1_setBounds_74 : decode cX1_setBounds 74 = .ok (.iadd, 1) := by decide +kernel
theorem dX1_setBounds_75 : decode cX1_setBounds 75 = .ok (.iastore, 1) := by decide +kernel
theorem dX1_setBounds_76 : decode cX1_setBounds 76 = .ok (.aload_n 0, 1) := by decide +kernel
theorem dX1_setBounds_77 : decode cX1_setBounds 77 = .ok (.getfield 37, 3) := by decide +kernel
theorem dX1_setBounds_80 : decode cX1_setBounds 80 = .ok (.iload_n 1, 1) := by decide +kernel
theorem dX1_setBounds_81 : decode cX1_setBounds 81 = .ok (.aload_n 0, 1) := by decide +kernel
theorem dX1_setBounds_82 : decode cX1_setBounds 82 = .ok (.getfield 37, 3) := by decide +kernel
theorem dX1_setBounds_85 : decode cX1_setBounds 85 = .ok (.iload_n 1, 1) := by decide +kernel
theorem dX1_setBounds_86 : decode cX1_setBounds 86 = .ok (.iconst 1, 1) := by decide +kernel
theorem dX1_setBounds_87 : decode cX1_setBounds 87 = .ok (.iadd, 1) := by decide +kernel
theorem dX1_setBounds_88 : decode cX1_setBounds 88 = .ok (.iaload, 1) := by decide +kernel
theorem dX1_setBounds_89 : decode cX1_setBounds 89 = .ok (.aload_n 0, 1) := by decide +kernel
theorem dX1_setBounds_90 : decode cX1_setBounds 90 = .ok (.getfield 18, 3) := by decide +kernel
theorem dX1_setBounds_93 : decode cX1_setBounds 93 = .ok (.iload_n 1, 1) := by decide +kernel
theorem dX1_setBounds_94 : decode cX1_setBounds 94 = .ok (.iaload, 1) := by decide +kernel
theorem dX1_setBounds_95 : decode cX1_setBounds 95 = .ok (.invokestatic 62, 3) := by decide +kernel
theorem dX1_setBounds_98 : decode cX1_setBounds 98 = .ok (.iastore, 1) := by decide +kernel
theorem dX1_setBounds_99 : decode cX1_setBounds 99 = .ok (.aload_n 0, 1) := by decide +kernel
theorem dX1_setBounds_100 : decode cX1_setBounds 100 = .ok (.getfield 40, 3) := by decide +kernel
theorem dX1_setBounds_103 : decode cX1_setBounds 103 = .ok (.iload_n 1, 1) := by decide +kernel
theorem dX1_setBounds_104 : decode cX1_setBounds 104 = .ok (.aload_n 0, 1) := by decide +kernel
theorem dX1_setBounds_105 : decode cX1_setBounds 105 = .ok (.getfield 40, 3) := by decide +kernel
theorem dX1_setBounds_108 : decode cX1_setBounds 108 = .ok (.iload_n 1, 1) := by decide +kernel
theorem dX1_setBounds_109 : decode cX1_setBounds 109 = .ok (.iconst 1, 1) := by decide +kernel
theorem dX1_setBounds_110 : decode cX1_setBounds 110 = .ok (.iadd, 1) := by decide +kernel
theorem dX1_setBounds_111 : decode cX1_setBounds 111 = .ok (.iaload, 1) := by decide +kernel
theorem dX1_setBounds_112 : decode cX1_setBounds 112 = .ok (.aload_n 0, 1) := by decide +kernel
theorem dX1_setBounds_113 : decode cX1_setBounds 113 = .ok (.getfield 9, 3) := by decide +kernel
theorem dX1_setBounds_116 : decode cX1_setBounds 116 = .ok (.iload_n 1, 1) := by decide +kernel
theorem dX1_setBounds_117 : decode cX1_setBounds 117 = .ok (.iaload, 1) := by decide +kernel
theorem dX1_setBounds_118 : decode cX1_setBounds 118 = .ok (.invokestatic 68, 3) := by decide +kernel
theorem dX1_setBounds_121 : decode cX1_setBounds 121 = .ok (.iastore, 1) := by decide +kernel
theorem dX1_setBounds_122 : decode cX1_setBounds 122 = .ok (.aload_n 0, 1) := by decide +kernel
theorem dX1_setBounds_123 : decode cX1_setBounds 123 = .ok (.getfield 43, 3) := by decide +kernel
theorem dX1_setBounds_126 : decode cX1_setBounds 126 = .ok (.iload_n 1, 1) := by decide +kernel
theorem dX1_setBounds_127 : decode cX1_setBounds 127 = .ok (.aload_n 0, 1) := by decide +kernel
theorem dX1_setBounds_128 : decode cX1_setBounds 128 = .ok (.getfield 43, 3) := by decide +kernel
theorem dX1_setBounds_131 : decode cX1_setBounds 131 = .ok (.iload_n 1, 1) := by decide +kernel
theorem dX1_setBounds_132 : decode cX1_setBounds 132 = .ok (.iconst 1, 1) := by decide +kernel
theorem dX1_setBounds_133 : decode cX1_setBounds 133 = .ok (.iadd, 1) := by decide +kernel
theorem dX1_setBounds_134 : decode cX1_setBounds 134 = .ok (.iaload, 1) := by decide +kernel
theorem dX1_setBounds_135 : decode cX1_setBounds 135 = .ok (.aload_n 0, 1) := by decide +kernel
theorem dX1_setBounds_136 : decode cX1_setBounds 136 = .ok (.getfield 15, 3) := by decide +kernel
theorem dX1_setBounds_139 : decode cX1_setBounds 139 = .ok (.iload_n 1, 1) := by decide +kernel
theorem dX1_setBounds_140 : decode cX1_setBounds 140 = .ok (.iaload, 1) := by decide +kernel
theorem dX1_setBounds_141 : decode cX1_setBounds 141 = .ok (.invokestatic 62, 3) := by decide +kernel
theorem dX1_setBounds_144 : decode cX1_setBounds 144 = .ok (.iastore, 1) := by decide +kernel
theorem dX1_setBounds_145 : decode cX1_setBounds 145 = .ok (.iinc 1 (-1), 3) := by decide +kernel
theorem dX1_setBounds_148 : decode cX1_setBounds 148 = .ok (.goto (-97), 3) := by decide +kernel
theorem dX1_setBounds_151 : decode cX1_setBounds 151 = .ok (.return_, 1) := by decide +kernel
set_option maxRecDepth 20000 in
theorem ggX1_choose_X1_mayBeBetter : GoodIn wsX1_choose wsX1_mayBeBetter := goodIn_r _ [6, 7, 8, 9, 10, 11, 12, 13, 37, 38, 39, 40, 41, 42, 43, 44, 45, 46, 47, 48, 49, 50, 51, 52] (by decide +kernel) (by decide +kernel)
set_option maxRecDepth 20000 in
theorem gX1_choose_X1_mayBeBetter : GoodIn wsX1_choose (wsV RX1 71 RX1 yX1_mayBeBetter wsX1_mayBeBetter) := goodIn_app (goodIn_of _ (by decide +kernel)) ggX1_choose_X1_mayBeBetter
set_option maxRecDepth 20000 in
theorem ggX1_choose_X1_keep : GoodIn wsX1_choose wsX1_keep := goodIn_r _ [17, 8, 18, 19, 1, 20, 21, 37, 38, 39, 40, 41, 42, 43, 44, 45, 46, 47, 48, 49, 50, 51, 52] (by decide +kernel) (by decide +kernel)
set_option maxRecDepth 20000 in
theorem gX1_choose_X1_keep : GoodIn wsX1_choose (wsV RX1 75 RX1 yX1_keep wsX1_keep) := goodIn_app (goodIn_of _ (by decide +kernel)) ggX1_choose_X1_keep
set_option maxRecDepth 20000 in
theorem ggX1_choose_X1_chooseParts : GoodIn wsX1_choose wsX1_chooseParts := goodIn_r _ [25, 26, 27, 28, 29, 30, 21, 31, 32, 33, 34, 35, 36, 5, 0, 1, 2, 3, 4, 6, 7, 8, 9, 10, 11, 12, 13, 14, 15, 16, 17, 18, 19, 20, 22, 23, 24, 37, 38, 39, 40, 41, 42, 43, 44, 45, 46, 47, 48, 49, 50, 51, 52] (by decide +kernel) (by decide +kernel)
set_option maxRecDepth 20000 in
theorem gX1_choose_X1_chooseParts : GoodIn wsX1_choose (wsV RX1 79 RX1 yX1_chooseParts wsX1_chooseParts) := goodIn_app (goodIn_of _ (by decide +kernel)) ggX1_choose_X1_chooseParts
theorem dX1_choose_0 : decode cX1_choose 0 = .ok (.aload_n 0, 1) := by decide +kernel
theorem dX1_choose_1 : decode cX1_choose 1 = .ok (.iload_n 1, 1) := by decide +kernel
theorem dX1_choose_2 : decode cX1_choose 2 = .ok (.iload_n 2, 1) := by decide +kernel
theorem dX1_choose_3 : decode cX1_choose 3 = .ok (.iload_n 3, 1) := by decide +kernel
theorem dX1_choose_4 : decode cX1_choose 4 = .ok (.iload 4, 2) := by decide +kernel
theorem dX1_choose_6 : decode cX1_choose 6 = .ok (.iload 5, 2) := by decide +kernel
theorem dX1_choose_8 : decode cX1_choose 8 = .ok (.invokevirtual 71, 3) := by decide +kernel
theorem dX1_choose_11 : decode cX1_choose 11 = .ok (.ifCond .ne 4, 3) := by decide +kernel
theorem dX1_choose_14 : decode cX1_choose 14 = .ok (.return_, 1) := by decide +kernel
theorem dX1_choose_15 : decode cX1_choose 15 = .ok (.iload_n 1, 1) := by decide +kernel
theorem dX1_choose_16 : decode cX1_choose 16 = .ok (.aload_n 0, 1) := by decide +kernel
theorem dX1_choose_17 : decode cX1_choose 17 = .ok (.getfield 46, 3) := by decide +kernel
theorem dX1_choose_20 : decode cX1_choose 20 = .ok (.if_icmp .lt 15, 3) := by decide +kernel
theorem dX1_choose_23 : decode cX1_choose 23 = .ok (.aload_n 0, 1) := by decide +kernel
theorem dX1_choose_24 : decode cX1_choose 24 = .ok (.iload_n 3, 1) := by decide +kernel
theorem dX1_choose_25 : decode cX1_choose 25 = .ok (.iload 4, 2) := by decide +kernel
theorem dX1_choose_27 : decode cX1_choose 27 = .ok (.iload 5, 2) := by decide +kernel
theorem dX1_choose_29 : decode cX1_choose 29 = .ok (.invokevirtual 75, 3) := by decide +kernel
theorem dX1_choose_32 : decode cX1_choose 32 = .ok (.goto 14, 3) := by decide +kernel
theorem dX1_choose_35 : decode cX1_choose 35 = .ok (.aload_n 0, 1) := by decide +kernel
theorem dX1_choose_36 : decode cX1_choose 36 = .ok (.iload_n 1, 1) := by decide +kernel
theorem dX1_choose_37 : decode cX1_choose 37 = .ok (.iload_n 2, 1) := by decide +kernel
theorem dX1_choose_38 : decode cX1_choose 38 = .ok (.iload_n 3, 1) := by decide +kernel
theorem dX1_choose_39 : decode cX1_choose 39 = .ok (.iload 4, 2) := by decide +kernel
theorem dX1_choose_41 : decode cX1_choose 41 = .ok (.iload 5, 2) := by decide +kernel
theorem dX1_choose_43 : decode cX1_choose 43 = .ok (.invokevirtual 79, 3) := by decide +kernel
theorem dX1_choose_46 : decode cX1_choose 46 = .ok (.return_, 1) := by decide +kernel
set_option maxRecDepth 20000 in
theorem ggX1_chooseParts_X1_choose : GoodIn wsX1_chooseParts wsX1_choose := goodIn_r _ [14, 15, 16, 17, 18, 13, 19, 20, 21, 22, 23, 24, 25, 26, 27, 28, 29, 30, 31, 32, 33, 6, 34, 35, 36, 0, 1, 2, 3, 4, 5, 7, 8, 9, 10, 11, 12, 37, 38, 39, 40, 41, 42, 43, 44, 45, 46, 47, 48, 49, 50, 51, 52] (by decide +kernel) (by decide +kernel)
set_option maxRecDepth 20000 in
theorem gX1_chooseParts_X1_choose : GoodIn wsX1_chooseParts (wsV RX1 58 RX1 yX1_choose wsX1_choose) := goodIn_app (goodIn_of _ (by decide +kernel)) ggX1_chooseParts_X1_choose
theorem dX1_chooseParts_0 : decode cX1_chooseParts 0 = .ok (.iload_n 2, 1) := by decide +kernel
theorem dX1_chooseParts_1 : decode cX1_chooseParts 1 = .ok (.aload_n 0, 1) := by decide +kernel
theorem dX1_chooseParts_2 : decode cX1_chooseParts 2 = .ok (.getfield 21, 3) := by decide +kernel
theorem dX1_chooseParts_5 : decode cX1_chooseParts 5 = .ok (.iload_n 1, 1) := by decide +kernel
theorem dX1_chooseParts_6 : decode cX1_chooseParts 6 = .ok (.iaload, 1) := by decide +kernel
theorem dX1_chooseParts_7 : decode cX1_chooseParts 7 = .ok (.invokestatic 62, 3) := by decide +kernel
theorem dX1_chooseParts_10 : decode cX1_chooseParts 10 = .ok (.istore 6, 2) := by decide +kernel
theorem dX1_chooseParts_12 : decode cX1_chooseParts 12 = .ok (.iconst 0, 1) := by decide +kernel
theorem dX1_chooseParts_13 : decode cX1_chooseParts 13 = .ok (.istore 7, 2) := by decide +kernel
theorem dX1_chooseParts_15 : decode cX1_chooseParts 15 = .ok (.iload 7, 2) := by decide +kernel
theorem dX1_chooseParts_17 : decode cX1_chooseParts 17 = .ok (.iload 6, 2) := by decide +kernel
theorem dX1_chooseParts_19 : decode cX1_chooseParts 19 = .ok (.if_icmp .gt 63, 3) := by decide +kernel
theorem dX1_chooseParts_22 : decode cX1_chooseParts 22 = .ok (.aload_n 0, 1) := by decide +kernel
theorem dX1_chooseParts_23 : decode cX1_chooseParts 23 = .ok (.getfield 31, 3) := by decide +kernel
theorem dX1_chooseParts_26 : decode cX1_chooseParts 26 = .ok (.iload_n 1, 1) := by decide +kernel
theorem dX1_chooseParts_27 : decode cX1_chooseParts 27 = .ok (.iload 7, 2) := by decide +kernel
theorem dX1_chooseParts_29 : decode cX1_chooseParts 29 = .ok (.iastore, 1) := by decide +kernel
theorem dX1_chooseParts_30 : decode cX1_chooseParts 30 = .ok (.aload_n 0, 1) := by decide +kernel
theorem dX1_chooseParts_31 : decode cX1_chooseParts 31 = .ok (.iload_n 1, 1) := by decide +kernel
theorem dX1_chooseParts_32 : decode cX1_chooseParts 32 = .ok (.iconst 1, 1) := by decide +kernel
theorem dX1_chooseParts_33 : decode cX1_chooseParts 33 = .ok (.iadd, 1) := by decide +kernel
theorem dX1_chooseParts_34 : decode cX1_chooseParts 34 = .ok (.iload_n 2, 1) := by decide +kernel
theorem dX1_chooseParts_35 : decode cX1_chooseParts 35 = .ok (.iload 7, 2) := by decide +kernel
theorem dX1_chooseParts_37 : decode cX1_chooseParts 37 = .ok (.isub, 1) := by decide +kernel
theorem dX1_chooseParts_38 : decode cX1_chooseParts 38 = .ok (.iload_n 3, 1) := by decide +kernel
theorem dX1_chooseParts_39 : decode cX1_chooseParts 39 = .ok (.iload 7, 2) := by decide +kernel
theorem dX1_chooseParts_41 : decode cX1_chooseParts 41 = .ok (.aload_n 0, 1) := by decide +kernel
theorem dX1_chooseParts_42 : decode cX1_chooseParts 42 = .ok (.getfield 18, 3) := by decide +kernel
theorem dX1_chooseParts_45 : decode cX1_chooseParts 45 = .ok (.iload_n 1, 1) := by decide +kernel
theorem dX1_chooseParts_46 : decode cX1_chooseParts 46 = .ok (.iaload, 1) := by decide +kernel
theorem dX1_chooseParts_47 : decode cX1_chooseParts 47 = .ok (.imul, 1) := by decide +kernel
theorem dX1_chooseParts_48 : decode cX1_chooseParts 48 = .ok (.iadd, 1) := by decide +kernel
theorem dX1_chooseParts_49 : decode cX1_chooseParts 49 = .ok (.iload 4, 2) := by decide +kernel
theorem dX1_chooseParts_51 : decode cX1_chooseParts 51 = .ok (.iload 7, 2) := by decide +kernel
theorem dX1_chooseParts_53 : decode cX1_chooseParts 53 = .ok (.aload_n 0, 1) := by decide +kernel
theorem dX1_chooseParts_54 : decode cX1_chooseParts 54 = .ok (.getfield 9, 3) := by decide +kernel
theorem dX1_chooseParts_57 : decode cX1_chooseParts 57 = .ok (.iload_n 1, 1) := by decide +kernel
theorem dX1_chooseParts_58 : decode cX1_chooseParts 58 = .ok (.iaload, 1) := by decide +kernel
theorem dX1_chooseParts_59 : decode cX1_chooseParts 59 = .ok (.imul, 1) := by decide +kernel
theorem dX1_chooseParts_60 : decode cX1_chooseParts 60 = .ok (.iadd, 1) := by decide +kernel
theorem dX1_chooseParts_61 : decode cX1_chooseParts 61 = .ok (.iload 5, 2) := by decide +kernel
theorem dX1_chooseParts_63 : decode cX1_chooseParts 63 = .ok (.iload 7, 2) := by decide +kernel
theorem dX1_chooseParts_65 : decode cX1_chooseParts 65 = .ok (.aload_n 0, 1) := by decide +kernel
theorem dX1_chooseParts_66 : decode cX1_chooseParts 66 = .ok (.getfield 15, 3) := by decide +kernel
theorem dX1_chooseParts_69 : decode cX1_chooseParts 69 = .ok (.iload_n 1, 1) := by decide +kernel
theorem dX1_chooseParts_70 : decode cX1_chooseParts 70 = .ok (.iaload, 1) := by decide +kernel
theorem dX1_chooseParts_71 : decode cX1_chooseParts 71 = .ok (.imul, 1) := by decide +kernel
theorem dX1_chooseParts_72 : decode cX1_chooseParts 72 = .ok (.iadd, 1) := by decide +kernel
theorem dX1_chooseParts_73 : decode cX1_chooseParts 73 = .ok (.invokevirtual 58, 3) := by decide +kernel
theorem dX1_chooseParts_76 : decode cX1_chooseParts 76 = .ok (.iinc 7 1, 3) := by decide +kernel
theorem dX1_chooseParts_79 : decode cX1_chooseParts 79 = .ok (.goto (-64), 3) := by decide +kernel
theorem dX1_chooseParts_82 : decode cX1_chooseParts 82 = .ok (.return_, 1) := by decide +kernel
theorem dX1_mayBeBetter_0 : decode cX1_mayBeBetter 0 = .ok (.iload_n 2, 1) := by decide +kernel
theorem dX1_mayBeBetter_1 : decode cX1_mayBeBetter 1 = .ok (.aload_n 0, 1) := by decide +kernel
theorem dX1_mayBeBetter_2 : decode cX1_mayBeBetter 2 = .ok (.getfield 34, 3) := by decide +kernel
theorem dX1_mayBeBetter_5 : decode cX1_mayBeBetter 5 = .ok (.iload_n 1, 1) := by decide +kernel
theorem dX1_mayBeBetter_6 : decode cX1_mayBeBetter 6 = .ok (.iaload, 1) := by decide +kernel
theorem dX1_mayBeBetter_7 : decode cX1_mayBeBetter 7 = .ok (.if_icmp .gt 68, 3) := by decide +kernel
theorem dX1_mayBeBetter_10 : decode cX1_mayBeBetter 10 = .ok (.aload_n 0, 1) := by decide +kernel
theorem dX1_mayBeBetter_11 : decode cX1_mayBeBetter 11 = .ok (.getfield 27, 3) := by decide +kernel
theorem dX1_mayBeBetter_14 : decode cX1_mayBeBetter 14 = .ok (.iconst (-1), 1) := by decide +kernel
theorem dX1_mayBeBetter_15 : decode cX1_mayBeBetter 15 = .ok (.if_icmp .eq 20, 3) := by decide +kernel
theorem dX1_mayBeBetter_18 : decode cX1_mayBeBetter 18 = .ok (.iload_n 3, 1) := by decide +kernel
theorem dX1_mayBeBetter_19 : decode cX1_mayBeBetter 19 = .ok (.iload_n 2, 1) := by decide +kernel
theorem dX1_mayBeBetter_20 : decode cX1_mayBeBetter 20 = .ok (.aload_n 0, 1) := by decide +kernel
theorem dX1_mayBeBetter_21 : decode cX1_mayBeBetter 21 = .ok (.getfield 37, 3) := by decide +kernel
theorem dX1_mayBeBetter_24 : decode cX1_mayBeBetter 24 = .ok (.iload_n 1, 1) := by decide +kernel
theorem dX1_mayBeBetter_25 : decode cX1_mayBeBetter 25 = .ok (.iaload, 1) := by decide +kernel
theorem dX1_mayBeBetter_26 : decode cX1_mayBeBetter 26 = .ok (.imul, 1) := by decide +kernel
theorem dX1_mayBeBetter_27 : decode cX1_mayBeBetter 27 = .ok (.iadd, 1) := by decide +kernel
theorem dX1_mayBeBetter_28 : decode cX1_mayBeBetter 28 = .ok (.aload_n 0, 1) := by decide +kernel
theorem dX1_mayBeBetter_29 : decode cX1_mayBeBetter 29 = .ok (.getfield 27, 3) := by decide +kernel
theorem dX1_mayBeBetter_32 : decode cX1_mayBeBetter 32 = .ok (.if_icmp .ge 43, 3) := by decide +kernel
theorem dX1_mayBeBetter_35 : decode cX1_mayBeBetter 35 = .ok (.iload 4, 2) := by decide +kernel
theorem dX1_mayBeBetter_37 : decode cX1_mayBeBetter 37 = .ok (.iload_n 2, 1) := by decide +kernel
theorem dX1_mayBeBetter_38 : decode cX1_mayBeBetter 38 = .ok (.aload_n 0, 1) := by decide +kernel
theorem dX1_mayBeBetter_39 : decode cX1_mayBeBetter 39 = .ok (.getfield 40, 3) := by decide +kernel
theorem dX1_mayBeBetter_42 : decode cX1_mayBeBetter 42 = .ok (.iload_n 1, 1) := by decide +kernel
theorem dX1_mayBeBetter_43 : decode cX1_mayBeBetter 43 = .ok (.iaload, 1) := by decide +kernel
theorem dX1_mayBeBetter_44 : decode cX1_mayBeBetter 44 = .ok (.imul, 1) := by decide +kernel
theorem dX1_mayBeBetter_45 : decode cX1_mayBeBetter 45 = .ok (.iadd, 1) := by decide +kernel
theorem dX1_mayBeBetter_46 : decode cX1_mayBeBetter 46 = .ok (.aload_n 0, 1) := by decide +kernel
theorem dX1_mayBeBetter_47 : decode cX1_mayBeBetter 47 = .ok (.getfield 49, 3) := by decide +kernel
theorem dX1_mayBeBetter_50 : decode cX1_mayBeBetter 50 = .ok (.if_icmp .lt 25, 3) := by decide +kernel
theorem dX1_mayBeBetter_53 : decode cX1_mayBeBetter 53 = .ok (.iload 5, 2) := by decide +kernel
theorem dX1_mayBeBetter_55 : decode cX1_mayBeBetter 55 = .ok (.iload_n 2, 1) := by decide +kernel
theorem dX1_mayBeBetter_56 : decode cX1_mayBeBetter 56 = .ok (.aload_n 0, 1) := by decide +kernel
theorem dX1_mayBeBetter_57 : decode cX1_mayBeBetter 57 = .ok (.getfield 43, 3) := by decide +kernel
theorem dX1_mayBeBetter_60 : decode cX1_mayBeBetter 60 = .ok (.iload_n 1, 1) := by decide +kernel
theorem dX1_mayBeBetter_61 : decode cX1_mayBeBetter 61 = .ok (.iaload, 1) := by decide +kernel
theorem dX1_mayBeBetter_62 : decode cX1_mayBeBetter 62 = .ok (.imul, 1) := by decide +kernel
theorem dX1_mayBeBetter_63 : decode cX1_mayBeBetter 63 = .ok (.iadd, 1) := by decide +kernel
theorem dX1_mayBeBetter_64 : decode cX1_mayBeBetter 64 = .ok (.aload_n 0, 1) := by decide +kernel
theorem dX1_mayBeBetter_65 : decode cX1_mayBeBetter 65 = .ok (.getfield 52, 3) := by decide +kernel
theorem dX1_mayBeBetter_68 : decode cX1_mayBeBetter 68 = .ok (.if_icmp .gt 7, 3) := by decide +kernel
theorem dX1_mayBeBetter_71 : decode cX1_mayBeBetter 71 = .ok (.iconst 1, 1) := by decide +kernel
theorem dX1_mayBeBetter_72 : decode cX1_mayBeBetter 72 = .ok (.goto 4, 3) := by decide +kernel
theorem dX1_mayBeBetter_75 : decode cX1_mayBeBetter 75 = .ok (.iconst 0, 1) := by decide +kernel
theorem dX1_mayBeBetter_76 : decode cX1_mayBeBetter 76 = .ok (.ireturn, 1) := by decide +kernel
theorem dX1_keep_0 : decode cX1_keep 0 = .ok (.aload_n 0, 1) := by decide +kernel
theorem dX1_keep_1 : decode cX1_keep 1 = .ok (.iload_n 1, 1) := by decide +kernel
theorem dX1_keep_2 : decode cX1_keep 2 = .ok (.putfield 27, 3) := by decide +kernel
theorem dX1_keep_5 : decode cX1_keep 5 = .ok (.aload_n 0, 1) := by decide +kernel
theorem dX1_keep_6 : decode cX1_keep 6 = .ok (.iload_n 2, 1) := by decide +kernel
theorem dX1_keep_7 : decode cX1_keep 7 = .ok (.bipush 10, 2) := by decide +kernel
theorem dX1_keep_9 : decode cX1_keep 9 = .ok (.idiv, 1) := by decide +kernel
theorem dX1_keep_10 : decode cX1_keep 10 = .ok (.putfield 82, 3) := by decide +kernel
theorem dX1_keep_13 : decode cX1_keep 13 = .ok (.aload_n 0, 1) := by decide +kernel
theorem dX1_keep_14 : decode cX1_keep 14 = .ok (.iload_n 3, 1) := by decide +kernel
theorem dX1_keep_15 : decode cX1_keep 15 = .ok (.bipush 10, 2) := by decide +kernel
theorem dX1_keep_17 : decode cX1_keep 17 = .ok (.iadd, 1) := by decide +kernel
theorem dX1_keep_18 : decode cX1_keep 18 = .ok (.iconst 1, 1) := by decide +kernel
theorem dX1_keep_19 : decode cX1_keep 19 = .ok (.isub, 1) := by decide +kernel
theorem dX1_keep_20 : decode cX1_keep 20 = .ok (.bipush 10, 2) := by decide +kernel
theorem dX1_keep_22 : decode cX1_keep 22 = .ok (.idiv, 1) := by decide +kernel
theorem dX1_keep_23 : decode cX1_keep 23 = .ok (.putfield 85, 3) := by decide +kernel
theorem dX1_keep_26 : decode cX1_keep 26 = .ok (.iconst 0, 1) := by decide +kernel
theorem dX1_keep_27 : decode cX1_keep 27 = .ok (.istore 4, 2) := by decide +kernel
theorem dX1_keep_29 : decode cX1_keep 29 = .ok (.iload 4, 2) := by decide +kernel
theorem dX1_keep_31 : decode cX1_keep 31 = .ok (.aload_n 0, 1) := by decide +kernel
theorem dX1_keep_32 : decode cX1_keep 32 = .ok (.getfield 46, 3) := by decide +kernel
theorem dX1_keep_35 : decode cX1_keep 35 = .ok (.if_icmp .ge 23, 3) := by decide +kernel
theorem dX1_keep_38 : decode cX1_keep 38 = .ok (.aload_n 0, 1) := by decide +kernel
theorem dX1_keep_39 : decode cX1_keep 39 = .ok (.getfield 24, 3) := by decide +kernel
theorem dX1_keep_42 : decode cX1_keep 42 = .ok (.iload 4, 2) := by decide +kernel
theorem dX1_keep_44 : decode cX1_keep 44 = .ok (.aload_n 0, 1) := by decide +kernel
theorem dX1_keep_45 : decode cX1_keep 45 = .ok (.getfield 31, 3) := by decide +kernel
theorem dX1_keep_48 : decode cX1_keep 48 = .ok (.iload 4, 2) := by decide +kernel
theorem dX1_keep_50 : decode cX1_keep 50 = .ok (.iaload, 1) := by decide +kernel
theorem dX1_keep_51 : decode cX1_keep 51 = .ok (.iastore, 1) := by decide +kernel
theorem dX1_keep_52 : decode cX1_keep 52 = .ok (.iinc 4 1, 3) := by decide +kernel
theorem dX1_keep_55 : decode cX1_keep 55 = .ok (.goto (-26), 3) := by decide +kernel
theorem dX1_keep_58 : decode cX1_keep 58 = .ok (.return_, 1) := by decide +kernel
theorem dX2_init_0 : decode cX2_init 0 = .ok (.aload_n 0, 1) := by decide +kernel
theorem dX2_init_1 : decode cX2_init 1 = .ok (.invokespecial 3, 3) := by decide +kernel
theorem dX2_init_4 : decode cX2_init 4 = .ok (.aload_n 0, 1) := by decide +kernel
theorem dX2_init_5 : decode cX2_init 5 = .ok (.bipush 10, 2) := by decide +kernel
theorem dX2_init_7 : decode cX2_init 7 = .ok (.newarray .int, 2) := by decide +kernel
theorem dX2_init_9 : decode cX2_init 9 = .ok (.putfield 9, 3) := by decide +kernel
theorem dX2_init_12 : decode cX2_init 12 = .ok (.aload_n 0, 1) := by decide +kernel
theorem dX2_init_13 : decode cX2_init 13 = .ok (.bipush 6, 2) := by decide +kernel
theorem dX2_init_15 : decode cX2_init 15 = .ok (.newarray .int, 2) := by decide +kernel
theorem dX2_init_17 : decode cX2_init 17 = .ok (.putfield 15, 3) := by decide +kernel
theorem dX2_init_20 : decode cX2_init 20 = .ok (.aload_n 0, 1) := by decide +kernel
theorem dX2_init_21 : decode cX2_init 21 = .ok (.bipush 6, 2) := by decide +kernel
theorem dX2_init_23 : decode cX2_init 23 = .ok (.newarray .int, 2) := by decide +kernel
theorem dX2_init_25 : decode cX2_init 25 = .ok (.putfield 18, 3) := by decide +kernel
theorem dX2_init_28 : decode cX2_init 28 = .ok (.aload_n 0, 1) := by decide +kernel
theorem dX2_init_29 : decode cX2_init 29 = .ok (.bipush 6, 2) := by decide +kernel
theorem dX2_init_31 : decode cX2_init 31 = .ok (.newarray .int, 2) := by decide +kernel
theorem dX2_init_33 : decode cX2_init 33 = .ok (.putfield 21, 3) := by decide +kernel
theorem dX2_init_36 : decode cX2_init 36 = .ok (.aload_n 0, 1) := by decide +kernel
theorem dX2_init_37 : decode cX2_init 37 = .ok (.bipush 10, 2) := by decide +kernel
theorem dX2_init_39 : decode cX2_init 39 = .ok (.newarray .int, 2) := by decide +kernel
theorem dX2_init_41 : decode cX2_init 41 = .ok (.putfield 24, 3) := by decide +kernel
theorem dX2_init_44 : decode cX2_init 44 = .ok (.return_, 1) := by decide +kernel
theorem dX2_putSlats_0 : decode cX2_putSlats 0 = .ok (.aload_n 0, 1) := by decide +kernel
theorem dX2_putSlats_1 : decode cX2_putSlats 1 = .ok (.dup, 1) := by decide +kernel
theorem dX2_putSlats_2 : decode cX2_putSlats 2 = .ok (.getfield 27, 3) := by decide +kernel
theorem dX2_putSlats_5 : decode cX2_putSlats 5 = .ok (.iload_n 2, 1) := by decide +kernel
theorem dX2_putSlats_6 : decode cX2_putSlats 6 = .ok (.aload_n 0, 1) := by decide +kernel
theorem dX2_putSlats_7 : decode cX2_putSlats 7 = .ok (.getfield 9, 3) := by decide +kernel
theorem dX2_putSlats_10 : decode cX2_putSlats 10 = .ok (.iload_n 1, 1) := by decide +kernel
theorem dX2_putSlats_11 : decode cX2_putSlats 11 = .ok (.iaload, 1) := by decide +kernel
theorem dX2_putSlats_12 : decode cX2_putSlats 12 = .ok (.isub, 1) := by decide +kernel
theorem dX2_putSlats_13 : decode cX2_putSlats 13 = .ok (.iadd, 1) := by decide +kernel
theorem dX2_putSlats_14 : decode cX2_putSlats 14 = .ok (.putfield 27, 3) := by decide +kernel
theorem dX2_putSlats_17 : decode cX2_putSlats 17 = .ok (.aload_n 0, 1) := by decide +kernel
theorem dX2_putSlats_18 : decode cX2_putSlats 18 = .ok (.getfield 9, 3) := by decide +kernel
theorem dX2_putSlats_21 : decode cX2_putSlats 21 = .ok (.iload_n 1, 1) := by decide +kernel
theorem dX2_putSlats_22 : decode cX2_putSlats 22 = .ok (.iload_n 2, 1) := by decide +kernel
theorem dX2_putSlats_23 : decode cX2_putSlats 23 = .ok (.iastore, 1) := by decide +kernel
theorem dX2_putSlats_24 : decode cX2_putSlats 24 = .ok (.aload_n 0, 1) := by decide +kernel
theorem dX2_putSlats_25 : decode cX2_putSlats 25 = .ok (.getfield 27, 3) := by decide +kernel
theorem dX2_putSlats_28 : decode cX2_putSlats 28 = .ok (.ireturn, 1) := by decide +kernel
theorem dX2_add_0 : decode cX2_add 0 = .ok (.aload_n 0, 1) := by decide +kernel
theorem dX2_add_1 : decode cX2_add 1 = .ok (.getfield 31, 3) := by decide +kernel
theorem dX2_add_4 : decode cX2_add 4 = .ok (.istore 4, 2) := by decide +kernel
theorem dX2_add_6 : decode cX2_add 6 = .ok (.iload 4, 2) := by decide +kernel
theorem dX2_add_8 : decode cX2_add 8 = .ok (.ifCond .le 70, 3) := by decide +kernel
theorem dX2_add_11 : decode cX2_add 11 = .ok (.aload_n 0, 1) := by decide +kernel
theorem dX2_add_12 : decode cX2_add 12 = .ok (.getfield 18, 3) := by decide +kernel
theorem dX2_add_15 : decode cX2_add 15 = .ok (.iload 4, 2) := by decide +kernel
theorem dX2_add_17 : decode cX2_add 17 = .ok (.iconst 1, 1) := by decide +kernel
theorem dX2_add_18 : decode cX2_add 18 = .ok (.isub, 1) := by decide +kernel
theorem dX2_add_19 : decode cX2_add 19 = .ok (.iaload, 1) := by decide +kernel
theorem dX2_add_20 : decode cX2_add 20 = .ok (.iload_n 2, 1) := by decide +kernel
theorem dX2_add_21 : decode cX2_add 21 = .ok (.if_icmp .ge 57, 3) := by decide +kernel
theorem dX2_add_24 : decode cX2_add 24 = .ok (.aload_n 0, 1) := by decide +kernel
theorem dX2_add_25 : decode cX2_add 25 = .ok (.getfield 15, 3) := by decide +kernel
theorem dX2_add_28 : decode cX2_add 28 = .ok (.iload 4, 2) := by decide +kernel
theorem dX2_add_30 : decode cX2_add 30 = .ok (.aload_n 0, 1) := by decide +kernel
theorem dX2_add_31 : decode cX2_add 31 = .ok (.getfield 15, 3) := by decide +kernel
theorem dX2_add_34 : decode cX2_add 34 = .ok (.iload 4, 2) := by decide +kernel
theorem dX2_add_36 : decode cX2_add 36 = .ok (.iconst 1, 1) := by decide +kernel
theorem dX2_add_37 : decode cX2_add 37 = .ok (.isub, 1) := by decide +kernel
theorem dX2_add_38 : decode cX2_add 38 = .ok (.iaload, 1) := by decide +kernel
theorem dX2_add_39 : decode cX2_add 39 = .ok (.iastore, 1) := by decide +kernel
theorem dX2_add_40 : decode cX2_add 40 = .ok (.aload_n 0, 1) := by decide +kernel
theorem dX2_add_41 : decode cX2_add 41 = .ok (.getfield 18, 3) := by decide +kernel
theorem dX2_add_44 : decode cX2_add 44 = .ok (.iload 4, 2) := by decide +kernel
theorem dX2_add_46 : decode cX2_add 46 = .ok (.aload_n 0, 1) := by decide +kernel
theorem dX2_add_47 : decode cX2_add 47 = .ok (.getfield 18, 3) := by decide +kernel
theorem dX2_add_50 : decode cX2_add 50 = .ok (.iload 4, 2) := by decide +kernel
theorem dX2_add_52 : decode cX2_add 52 = .ok (.iconst 1, 1) := by decide +kernel
theorem dX2_add_53 : decode cX2_add 53 = .ok (.isub, 1) := by decide +kernel
theorem dX2_add_54 : decode cX2_add 54 = .ok (.iaload, 1) := by decide +kernel
theorem dX2_add_55 : decode cX2_add 55 = .ok (.iastore, 1) := by decide +kernel
theorem dX2_add_56 : decode cX2_add 56 = .ok (.aload_n 0, 1) := by decide +kernel
theorem dX2_add_57 : decode cX2_add 57 = .ok (.getfield 21, 3) := by decide +kernel
theorem dX2_add_60 : decode cX2_add 60 = .ok (.iload 4, 2) := by decide +kernel
theorem dX2_add_62 : decode cX2_add 62 = .ok (.aload_n 0, 1) := by decide +kernel
theorem dX2_add_63 : decode cX2_add 63 = .ok (.getfield 21, 3) := by decide +kernel
theorem dX2_add_66 : decode cX2_add 66 = .ok (.iload 4, 2) := by decide +kernel
theorem dX2_add_68 : decode cX2_add 68 = .ok (.iconst 1, 1) := by decide +kernel
theorem dX2_add_69 : decode cX2_add 69 = .ok (.isub, 1) := by decide +kernel
theorem dX2_add_70 : decode cX2_add 70 = .ok (.iaload, 1) := by decide +kernel
theorem dX2_add_71 : decode cX2_add 71 = .ok (.iastore, 1) := by decide +kernel
theorem dX2_add_72 : decode cX2_add 72 = .ok (.iinc 4 (-1), 3) := by decide +kernel
theorem dX2_add_75 : decode cX2_add 75 = .ok (.goto (-69), 3) := by decide +kernel
theorem dX2_add_78 : decode cX2_add 78 = .ok (.aload_n 0, 1) := by decide +kernel
theorem dX2_add_79 : decode cX2_add 79 = .ok (.getfield 15, 3) := by decide +kernel
theorem dX2_add_82 : decode cX2_add 82 = .ok (.iload 4, 2) := by decide +kernel
theorem dX2_add_84 : decode cX2_add 84 = .ok (.iload_n 1, 1) := by decide +kernel
theorem dX2_add_85 : decode cX2_add 85 = .ok (.iastore, 1) := by decide +kernel
theorem dX2_add_86 : decode cX2_add 86 = .ok (.aload_n 0, 1) := by decide +kernel
theorem dX2_add_87 : decode cX2_add 87 = .ok (.getfield 18, 3) := by decide +kernel
theorem dX2_add_90 : decode cX2_add 90 = .ok (.iload 4, 2) := by decide +kernel
theorem dX2_add_92 : decode cX2_add 92 = .ok (.iload_n 2, 1) := by decide +kernel
theorem dX2_add_93 : decode cX2_add 93 = .ok (.iastore, 1) := by decide +kernel
theorem dX2_add_94 : decode cX2_add 94 = .ok (.aload_n 0, 1) := by decide +kernel
theorem dX2_add_95 : decode cX2_add 95 = .ok (.getfield 21, 3) := by decide +kernel
theorem dX2_add_98 : decode cX2_add 98 = .ok (.iload 4, 2) := by decide +kernel
theorem dX2_add_100 : decode cX2_add 100 = .ok (.iload_n 3, 1) := by decide +kernel
theorem dX2_add_101 : decode cX2_add 101 = .ok (.iastore, 1) := by decide +kernel
theorem dX2_add_102 : decode cX2_add 102 = .ok (.aload_n 0, 1) := by decide +kernel
theorem dX2_add_103 : decode cX2_add 103 = .ok (.dup, 1) := by decide +kernel
theorem dX2_add_104 : decode cX2_add 104 = .ok (.getfield 31, 3) := by decide +kernel
theorem dX2_add_107 : decode cX2_add 107 = .ok (.iconst 1, 1) := by decide +kernel
theorem dX2_add_108 : decode cX2_add 108 = .ok (.iadd, 1) := by decide +kernel
theorem dX2_add_109 : decode cX2_add 109 = .ok (.putfield 31, 3) := by decide +kernel
theorem dX2_add_112 : decode cX2_add 112 = .ok (.aload_n 0, 1) := by decide +kernel
theorem dX2_add_113 : decode cX2_add 113 = .ok (.getfield 31, 3) := by decide +kernel
theorem dX2_add_116 : decode cX2_add 116 = .ok (.iconst 1, 1) := by decide +kernel
theorem dX2_add_117 : decode cX2_add 117 = .ok (.isub, 1) := by decide +kernel
theorem dX2_add_118 : decode cX2_add 118 = .ok (.ireturn, 1) := by decide +kernel
set_option maxRecDepth 20000 in
theorem ggX2_greatestWorth_X2_fill : GoodIn wsX2_greatestWorth wsX2_fill := goodIn_r _ [9, 10, 1, 11, 12, 13, 14, 15, 16, 17, 18, 19, 20, 21, 22] (by decide +kernel) (by decide +kernel)
set_option maxRecDepth 20000 in
theorem gX2_greatestWorth_X2_fill : GoodIn wsX2_greatestWorth (wsV RX2 34 RX2 yX2_fill wsX2_fill) := goodIn_app (goodIn_of _ (by decide +kernel)) ggX2_greatestWorth_X2_fill
theorem dX2_greatestWorth_0 : decode cX2_greatestWorth 0 = .ok (.iconst 0, 1) := by decide +kernel
theorem dX2_greatestWorth_1 : decode cX2_greatestWorth 1 = .ok (.istore_n 1, 1) := by decide +kernel
theorem dX2_greatestWorth_2 : decode cX2_greatestWorth 2 = .ok (.iload_n 1, 1) := by decide +kernel
theorem dX2_greatestWorth_3 : decode cX2_greatestWorth 3 = .ok (.bipush 10, 2) := by decide +kernel
theorem dX2_greatestWorth_5 : decode cX2_greatestWorth 5 = .ok (.if_icmp .ge 21, 3) := by decide +kernel
theorem dX2_greatestWorth_8 : decode cX2_greatestWorth 8 = .ok (.aload_n 0, 1) := by decide +kernel
theorem dX2_greatestWorth_9 : decode cX2_greatestWorth 9 = .ok (.getfield 24, 3) := by decide +kernel
theorem dX2_greatestWorth_12 : decode cX2_greatestWorth 12 = .ok (.iload_n 1, 1) := by decide +kernel
theorem dX2_greatestWorth_13 : decode cX2_greatestWorth 13 = .ok (.aload_n 0, 1) := by decide +kernel
theorem dX2_greatestWorth_14 : decode cX2_greatestWorth 14 = .ok (.getfield 9, 3) := by decide +kernel
theorem dX2_greatestWorth_17 : decode cX2_greatestWorth 17 = .ok (.iload_n 1, 1) := by decide +kernel
theorem dX2_greatestWorth_18 : decode cX2_greatestWorth 18 = .ok (.iaload, 1) := by decide +kernel
theorem dX2_greatestWorth_19 : decode cX2_greatestWorth 19 = .ok (.iastore, 1) := by decide +kernel
theorem dX2_greatestWorth_20 : decode cX2_greatestWorth 20 = .ok (.iinc 1 1, 3) := by decide +kernel
theorem dX2_greatestWorth_23 : decode cX2_greatestWorth 23 = .ok (.goto (-21), 3) := by decide +kernel
theorem dX2_greatestWorth_26 : decode cX2_greatestWorth 26 = .ok (.iconst 0, 1) := by decide +kernel
theorem dX2_greatestWorth_27 : decode cX2_greatestWorth 27 = .ok (.istore_n 1, 1) := by decide +kernel
theorem dX2_greatestWorth_28 : decode cX2_greatestWorth 28 = .ok (.iconst 0, 1) := by decide +kernel
theorem dX2_greatestWorth_29 : decode cX2_greatestWorth 29 = .ok (.istore_n 2, 1) := by decide +kernel
theorem dX2_greatestWorth_30 : decode cX2_greatestWorth 30 = .ok (.iload_n 2, 1) := by decide +kernel
theorem dX2_greatestWorth_31 : decode cX2_greatestWorth 31 = .ok (.aload_n 0, 1) := by decide +kernel
theorem dX2_greatestWorth_32 : decode cX2_greatestWorth 32 = .ok (.getfield 31, 3) := by decide +kernel
theorem dX2_greatestWorth_35 : decode cX2_greatestWorth 35 = .ok (.if_icmp .ge 24, 3) := by decide +kernel
theorem dX2_greatestWorth_38 : decode cX2_greatestWorth 38 = .ok (.iload_n 1, 1) := by decide +kernel
theorem dX2_greatestWorth_39 : decode cX2_greatestWorth 39 = .ok (.aload_n 0, 1) := by decide +kernel
theorem dX2_greatestWorth_40 : decode cX2_greatestWorth 40 = .ok (.getfield 18, 3) := by decide +kernel
theorem dX2_greatestWorth_43 : decode cX2_greatestWorth 43 = .ok (.iload_n 2, 1) := by decide +kernel
theorem dX2_greatestWorth_44 : decode cX2_greatestWorth 44 = .ok (.iaload, 1) := by decide +kernel
theorem dX2_greatestWorth_45 : decode cX2_greatestWorth 45 = .ok (.aload_n 0, 1) := by decide +kernel
theorem dX2_greatestWorth_46 : decode cX2_greatestWorth 46 = .ok (.iload_n 2, 1) := by decide +kernel
theorem dX2_greatestWorth_47 : decode cX2_greatestWorth 47 = .ok (.invokevirtual 34, 3) := by decide +kernel
theorem dX2_greatestWorth_50 : decode cX2_greatestWorth 50 = .ok (.imul, 1) := by decide +kernel
theorem dX2_greatestWorth_51 : decode cX2_greatestWorth 51 = .ok (.iadd, 1) := by decide +kernel
theorem dX2_greatestWorth_52 : decode cX2_greatestWorth 52 = .ok (.istore_n 1, 1) := by decide +kernel
theorem dX2_greatestWorth_53 : decode cX2_greatestWorth 53 = .ok (.iinc 2 1, 3) := by decide +kernel
theorem dX2_greatestWorth_56 : decode cX2_greatestWorth 56 = .ok (.goto (-26), 3) := by decide +kernel
theorem dX2_greatestWorth_59 : decode cX2_greatestWorth 59 = .ok (.iload_n 1, 1) := by decide +kernel
theorem dX2_greatestWorth_60 : decode cX2_greatestWorth 60 = .ok (.ireturn, 1) := by decide +kernel
theorem dX2_fill_0 : decode cX2_fill 0 = .ok (.iconst 0, 1) := by decide +kernel
theorem dX2_fill_1 : decode cX2_fill 1 = .ok (.istore_n 2, 1) := by decide +kernel
theorem dX2_fill_2 : decode cX2_fill 2 = .ok (.aload_n 0, 1) := by decide +kernel
theorem dX2_fill_3 : decode cX2_fill 3 = .ok (.getfield 15, 3) := by decide +kernel
theorem dX2_fill_6 : decode cX2_fill 6 = .ok (.iload_n 1, 1) := by decide +kernel
theorem dX2_fill_7 : decode cX2_fill 7 = .ok (.iaload, 1) := by decide +kernel
theorem dX2_fill_8 : decode cX2_fill 8 = .ok (.istore_n 3, 1) := by decide +kernel
theorem dX2_fill_9 : decode cX2_fill 9 = .ok (.iload_n 3, 1) := by decide +kernel
theorem dX2_fill_10 : decode cX2_fill 10 = .ok (.bipush 10, 2) := by decide +kernel
theorem dX2_fill_12 : decode cX2_fill 12 = .ok (.if_icmp .ge 44, 3) := by decide +kernel
theorem dX2_fill_15 : decode cX2_fill 15 = .ok (.aload_n 0, 1) := by decide +kernel
theorem dX2_fill_16 : decode cX2_fill 16 = .ok (.getfield 24, 3) := by decide +kernel
theorem dX2_fill_19 : decode cX2_fill 19 = .ok (.iload_n 3, 1) := by decide +kernel
theorem dX2_fill_20 : decode cX2_fill 20 = .ok (.iaload, 1) := by decide +kernel
theorem dX2_fill_21 : decode cX2_fill 21 = .ok (.aload_n 0, 1) := by decide +kernel
theorem dX2_fill_22 : decode cX2_fill 22 = .ok (.getfield 21, 3) := by decide +kernel
theorem dX2_fill_25 : decode cX2_fill 25 = .ok (.iload_n 1, 1) := by decide +kernel
theorem dX2_fill_26 : decode cX2_fill 26 = .ok (.iaload, 1) := by decide +kernel
theorem dX2_fill_27 : decode cX2_fill 27 = .ok (.iload_n 2, 1) := by decide +kernel
theorem dX2_fill_28 : decode cX2_fill 28 = .ok (.isub, 1) := by decide +kernel
theorem dX2_fill_29 : decode cX2_fill 29 = .ok (.invokestatic 38, 3) := by decide +kernel
theorem dX2_fill_32 : decode cX2_fill 32 = .ok (.istore 4, 2) := by decide +kernel
theorem dX2_fill_34 : decode cX2_fill 34 = .ok (.aload_n 0, 1) := by decide +kernel
theorem dX2_fill_35 : decode cX2_fill 35 = .ok (.getfield 24, 3) := by decide +kernel
theorem dX2_fill_38 : decode cX2_fill 38 = .ok (.iload_n 3, 1) := by decide +kernel
theorem dX2_fill_39 : decode cX2_fill 39 = .ok (.dup2, 1) := by decide +kernel
theorem dX2_fill_40 : decode cX2_fill 40 = .ok (.iaload, 1) := by decide +kernel
theorem dX2_fill_41 : decode cX2_fill 41 = .ok (.iload 4, 2) := by decide +kernel
theorem dX2_fill_43 : decode cX2_fill 43 = .ok (.isub, 1) := by decide +kernel
theorem dX2_fill_44 : decode cX2_fill 44 = .ok (.iastore, 1) := by decide +kernel
theorem dX2_fill_45 : decode cX2_fill 45 = .ok (.iload_n 2, 1) := by decide +kernel
theorem dX2_fill_46 : decode cX2_fill 46 = .ok (.iload 4, 2) := by decide +kernel
theorem dX2_fill_48 : decode cX2_fill 48 = .ok (.iadd, 1) := by decide +kernel
theorem dX2_fill_49 : decode cX2_fill 49 = .ok (.istore_n 2, 1) := by decide +kernel
theorem dX2_fill_50 : decode cX2_fill 50 = .ok (.iinc 3 1, 3) := by decide +kernel
theorem dX2_fill_53 : decode cX2_fill 53 = .ok (.goto (-44), 3) := by decide +kernel
theorem dX2_fill_56 : decode cX2_fill 56 = .ok (.iload_n 2, 1) := by decide +kernel
theorem dX2_fill_57 : decode cX2_fill 57 = .ok (.ireturn, 1) := by decide +kernel
theorem dX3_init_0 : decode cX3_init 0 = .ok (.aload_n 0, 1) := by decide +kernel
theorem dX3_init_1 : decode cX3_init 1 = .ok (.invokespecial 3, 3) := by decide +kernel
theorem dX3_init_4 : decode cX3_init 4 = .ok (.aload_n 0, 1) := by decide +kernel
theorem dX3_init_5 : decode cX3_init 5 = .ok (.bipush 12, 2) := by decide +kernel
theorem dX3_init_7 : decode cX3_init 7 = .ok (.newarray .int, 2) := by decide +kernel
theorem dX3_init_9 : decode cX3_init 9 = .ok (.putfield 9, 3) := by decide +kernel
theorem dX3_init_12 : decode cX3_init 12 = .ok (.aload_n 0, 1) := by decide +kernel
theorem dX3_init_13 : decode cX3_init 13 = .ok (.bipush 12, 2) := by decide +kernel
theorem dX3_init_15 : decode cX3_init 15 = .ok (.newarray .int, 2) := by decide +kernel
theorem dX3_init_17 : decode cX3_init 17 = .ok (.putfield 15, 3) := by decide +kernel
theorem dX3_init_20 : decode cX3_init 20 = .ok (.aload_n 0, 1) := by decide +kernel
theorem dX3_init_21 : decode cX3_init 21 = .ok (.bipush 12, 2) := by decide +kernel
theorem dX3_init_23 : decode cX3_init 23 = .ok (.newarray .int, 2) := by decide +kernel
theorem dX3_init_25 : decode cX3_init 25 = .ok (.putfield 18, 3) := by decide +kernel
theorem dX3_init_28 : decode cX3_init 28 = .ok (.aload_n 0, 1) := by decide +kernel
theorem dX3_init_29 : decode cX3_init 29 = .ok (.bipush 12, 2) := by decide +kernel
theorem dX3_init_31 : decode cX3_init 31 = .ok (.newarray .int, 2) := by decide +kernel
theorem dX3_init_33 : decode cX3_init 33 = .ok (.putfield 21, 3) := by decide +kernel
theorem dX3_init_36 : decode cX3_init 36 = .ok (.aload_n 0, 1) := by decide +kernel
theorem dX3_init_37 : decode cX3_init 37 = .ok (.bipush 12, 2) := by decide +kernel
theorem dX3_init_39 : decode cX3_init 39 = .ok (.newarray .int, 2) := by decide +kernel
theorem dX3_init_41 : decode cX3_init 41 = .ok (.putfield 24, 3) := by decide +kernel
theorem dX3_init_44 : decode cX3_init 44 = .ok (.aload_n 0, 1) := by decide +kernel
theorem dX3_init_45 : decode cX3_init 45 = .ok (.bipush 60, 2) := by decide +kernel
theorem dX3_init_47 : decode cX3_init 47 = .ok (.newarray .int, 2) := by decide +kernel
theorem dX3_init_49 : decode cX3_init 49 = .ok (.putfield 27, 3) := by decide +kernel
theorem dX3_init_52 : decode cX3_init 52 = .ok (.return_, 1) := by decide +kernel
theorem dX3_add_0 : decode cX3_add 0 = .ok (.aload_n 0, 1) := by decide +kernel
theorem dX3_add_1 : decode cX3_add 1 = .ok (.getfield 30, 3) := by decide +kernel
theorem dX3_add_4 : decode cX3_add 4 = .ok (.istore 5, 2) := by decide +kernel
theorem dX3_add_6 : decode cX3_add 6 = .ok (.aload_n 0, 1) := by decide +kernel
theorem dX3_add_7 : decode cX3_add 7 = .ok (.getfield 9, 3) := by decide +kernel
theorem dX3_add_10 : decode cX3_add 10 = .ok (.iload 5, 2) := by decide +kernel
theorem dX3_add_12 : decode cX3_add 12 = .ok (.iload_n 1, 1) := by decide +kernel
theorem dX3_add_13 : decode cX3_add 13 = .ok (.iastore, 1) := by decide +kernel
theorem dX3_add_14 : decode cX3_add 14 = .ok (.aload_n 0, 1) := by decide +kernel
theorem dX3_add_15 : decode cX3_add 15 = .ok (.getfield 15, 3) := by decide +kernel
theorem dX3_add_18 : decode cX3_add 18 = .ok (.iload 5, 2) := by decide +kernel
theorem dX3_add_20 : decode cX3_add 20 = .ok (.iload_n 2, 1) := by decide +kernel
theorem dX3_add_21 : decode cX3_add 21 = .ok (.iastore, 1) := by decide +kernel
theorem dX3_add_22 : decode cX3_add 22 = .ok (.aload_n 0, 1) := by decide +kernel
theorem dX3_add_23 : decode cX3_add 23 = .ok (.getfield 21, 3) := by decide +kernel
theorem dX3_add_26 : decode cX3_add 26 = .ok (.iload 5, 2) := by decide +kernel
theorem dX3_add_28 : decode cX3_add 28 = .ok (.iload_n 3, 1) := by decide +kernel
theorem dX3_add_29 : decode cX3_add 29 = .ok (.iastore, 1) := by decide +kernel
theorem dX3_add_30 : decode cX3_add 30 = .ok (.aload_n 0, 1) := by decide +kernel
theorem dX3_add_31 : decode cX3_add 31 = .ok (.getfield 24, 3) := by decide +kernel
theorem dX3_add_34 : decode cX3_add 34 = .ok (.iload 5, 2) := by decide +kernel
theorem dX3_add_36 : decode cX3_add 36 = .ok (.iload 4, 2) := by decide +kernel
theorem dX3_add_38 : decode cX3_add 38 = .ok (.iastore, 1) := by decide +kernel
theorem dX3_add_39 : decode cX3_add 39 = .ok (.aload_n 0, 1) := by decide +kernel
theorem dX3_add_40 : decode cX3_add 40 = .ok (.dup, 1) := by decide +kernel
theorem dX3_add_41 : decode cX3_add 41 = .ok (.getfield 30, 3) := by decide +kernel
theorem dX3_add_44 : decode cX3_add 44 = .ok (.iconst 1, 1) := by decide +kernel
theorem dX3_add_45 : decode cX3_add 45 = .ok (.iadd, 1) := by decide +kernel
theorem dX3_add_46 : decode cX3_add 46 = .ok (.putfield 30, 3) := by decide +kernel
theorem dX3_add_49 : decode cX3_add 49 = .ok (.iload 5, 2) := by decide +kernel
theorem dX3_add_51 : decode cX3_add 51 = .ok (.ireturn, 1) := by decide +kernel
theorem dX3_areOfTheirKinds_0 : decode cX3_areOfTheirKinds 0 = .ok (.aload_n 0, 1) := by decide +kernel
theorem dX3_areOfTheirKinds_1 : decode cX3_areOfTheirKinds 1 = .ok (.getfield 9, 3) := by decide +kernel
theorem dX3_areOfTheirKinds_4 : decode cX3_areOfTheirKinds 4 = .ok (.iload_n 1, 1) := by decide +kernel
theorem dX3_areOfTheirKinds_5 : decode cX3_areOfTheirKinds 5 = .ok (.iaload, 1) := by decide +kernel
theorem dX3_areOfTheirKinds_6 : decode cX3_areOfTheirKinds 6 = .ok (.ifCond .ne 27, 3) := by decide +kernel
theorem dX3_areOfTheirKinds_9 : decode cX3_areOfTheirKinds 9 = .ok (.aload_n 0, 1) := by decide +kernel
theorem dX3_areOfTheirKinds_10 : decode cX3_areOfTheirKinds 10 = .ok (.getfield 9, 3) := by decide +kernel
theorem dX3_areOfTheirKinds_13 : decode cX3_areOfTheirKinds 13 = .ok (.iload_n 2, 1) := by decide +kernel
theorem dX3_areOfTheirKinds_14 : decode cX3_areOfTheirKinds 14 = .ok (.iaload, 1) := by decide +kernel
theorem dX3_areOfTheirKinds_15 : decode cX3_areOfTheirKinds 15 = .ok (.iconst 1, 1) := by decide +kernel
theorem dX3_areOfTheirKinds_16 : decode cX3_areOfTheirKinds 16 = .ok (.if_icmp .ne 17, 3) := by decide +kernel
theorem dX3_areOfTheirKinds_19 : decode cX3_areOfTheirKinds 19 = .ok (.aload_n 0, 1) := by decide +kernel
theorem dX3_areOfTheirKinds_20 : decode cX3_areOfTheirKinds 20 = .ok (.getfield 9, 3) := by decide +kernel
theorem dX3_areOfTheirKinds_23 : decode cX3_areOfTheirKinds 23 = .ok (.iload_n 3, 1) := by decide +kernel
theorem dX3_areOfTheirKinds_24 : decode cX3_areOfTheirKinds 24 = .ok (.iaload, 1) := by decide +kernel
theorem dX3_areOfTheirKinds_25 : decode cX3_areOfTheirKinds 25 = .ok (.iconst 2, 1) := by decide +kernel
theorem dX3_areOfTheirKinds_26 : decode cX3_areOfTheirKinds 26 = .ok (.if_icmp .ne 7, 3) := by decide +kernel
theorem dX3_areOfTheirKinds_29 : decode cX3_areOfTheirKinds 29 = .ok (.iconst 1, 1) := by decide +kernel
theorem dX3_areOfTheirKinds_30 : decode cX3_areOfTheirKinds 30 = .ok (.goto 4, 3) := by decide +kernel
theorem dX3_areOfTheirKinds_33 : decode cX3_areOfTheirKinds 33 = .ok (.iconst 0, 1) := by decide +kernel
theorem dX3_areOfTheirKinds_34 : decode cX3_areOfTheirKinds 34 = .ok (.ireturn, 1) := by decide +kernel
theorem dX3_haveAll_0 : decode cX3_haveAll 0 = .ok (.aload_n 0, 1) := by decide +kernel
theorem dX3_haveAll_1 : decode cX3_haveAll 1 = .ok (.getfield 15, 3) := by decide +kernel
theorem dX3_haveAll_4 : decode cX3_haveAll 4 = .ok (.iload_n 1, 1) := by decide +kernel
theorem dX3_haveAll_5 : decode cX3_haveAll 5 = .ok (.iaload, 1) := by decide +kernel
theorem dX3_haveAll_6 : decode cX3_haveAll 6 = .ok (.iload 4, 2) := by decide +kernel
theorem dX3_haveAll_8 : decode cX3_haveAll 8 = .ok (.if_icmp .lt 29, 3) := by decide +kernel
theorem dX3_haveAll_11 : decode cX3_haveAll 11 = .ok (.aload_n 0, 1) := by decide +kernel
theorem dX3_haveAll_12 : decode cX3_haveAll 12 = .ok (.getfield 15, 3) := by decide +kernel
theorem dX3_haveAll_15 : decode cX3_haveAll 15 = .ok (.iload_n 2, 1) := by decide +kernel
theorem dX3_haveAll_16 : decode cX3_haveAll 16 = .ok (.iaload, 1) := by decide +kernel
theorem dX3_haveAll_17 : decode cX3_haveAll 17 = .ok (.iload 4, 2) := by decide +kernel
theorem dX3_haveAll_19 : decode cX3_haveAll 19 = .ok (.if_icmp .lt 18, 3) := by decide +kernel
theorem dX3_haveAll_22 : decode cX3_haveAll 22 = .ok (.aload_n 0, 1) := by decide +kernel
theorem dX3_haveAll_23 : decode cX3_haveAll 23 = .ok (.getfield 15, 3) := by decide +kernel
theorem dX3_haveAll_26 : decode cX3_haveAll 26 = .ok (.iload_n 3, 1) := by decide +kernel
theorem dX3_haveAll_27 : decode cX3_haveAll 27 = .ok (.iaload, 1) := by decide +kernel
theorem dX3_haveAll_28 : decode cX3_haveAll 28 = .ok (.iload 4, 2) := by decide +kernel
theorem dX3_haveAll_30 : decode cX3_haveAll 30 = .ok (.if_icmp .lt 7, 3) := by decide +kernel
theorem dX3_haveAll_33 : decode cX3_haveAll 33 = .ok (.iconst 1, 1) := by decide +kernel
theorem dX3_haveAll_34 : decode cX3_haveAll 34 = .ok (.goto 4, 3) := by decide +kernel
theorem dX3_haveAll_37 : decode cX3_haveAll 37 = .ok (.iconst 0, 1) := by decide +kernel
theorem dX3_haveAll_38 : decode cX3_haveAll 38 = .ok (.ireturn, 1) := by decide +kernel
set_option maxRecDepth 20000 in
theorem ggX3_addBatch_X3_use : GoodIn wsX3_addBatch wsX3_use := goodIn_r _ [8, 9, 10, 11, 12, 13, 14, 15, 16, 17, 18, 19] (by decide +kernel) (by decide +kernel)
set_option maxRecDepth 20000 in
theorem gX3_addBatch_X3_use : GoodIn wsX3_addBatch (wsV RX3 34 RX3 yX3_use wsX3_use) := goodIn_app (goodIn_of _ (by decide +kernel)) ggX3_addBatch_X3_use
theorem dX3_addBatch_0 : decode cX3_addBatch 0 = .ok (.aload_n 0, 1) := by decide +kernel
theorem dX3_addBatch_1 : decode cX3_addBatch 1 = .ok (.iload_n 1, 1) := by decide +kernel
theorem dX3_addBatch_2 : decode cX3_addBatch 2 = .ok (.iload 4, 2) := by decide +kernel
theorem dX3_addBatch_4 : decode cX3_addBatch 4 = .ok (.invokevirtual 34, 3) := by decide +kernel
theorem dX3_addBatch_7 : decode cX3_addBatch 7 = .ok (.aload_n 0, 1) := by decide +kernel
theorem dX3_addBatch_8 : decode cX3_addBatch 8 = .ok (.iload_n 2, 1) := by decide +kernel
theorem dX3_addBatch_9 : decode cX3_addBatch 9 = .ok (.iload 4, 2) := by decide +kernel
theorem dX3_addBatch_11 : decode cX3_addBatch 11 = .ok (.invokevirtual 34, 3) := by decide +kernel
theorem dX3_addBatch_14 : decode cX3_addBatch 14 = .ok (.aload_n 0, 1) := by decide +kernel
theorem dX3_addBatch_15 : decode cX3_addBatch 15 = .ok (.iload_n 3, 1) := by decide +kernel
theorem dX3_addBatch_16 : decode cX3_addBatch 16 = .ok (.iload 4, 2) := by decide +kernel
theorem dX3_addBatch_18 : decode cX3_addBatch 18 = .ok (.invokevirtual 34, 3) := by decide +kernel
theorem dX3_addBatch_21 : decode cX3_addBatch 21 = .ok (.aload_n 0, 1) := by decide +kernel
theorem dX3_addBatch_22 : decode cX3_addBatch 22 = .ok (.dup, 1) := by decide +kernel
theorem dX3_addBatch_23 : decode cX3_addBatch 23 = .ok (.getfield 38, 3) := by decide +kernel
theorem dX3_addBatch_26 : decode cX3_addBatch 26 = .ok (.iload 4, 2) := by decide +kernel
theorem dX3_addBatch_28 : decode cX3_addBatch 28 = .ok (.iadd, 1) := by decide +kernel
theorem dX3_addBatch_29 : decode cX3_addBatch 29 = .ok (.putfield 38, 3) := by decide +kernel
theorem dX3_addBatch_32 : decode cX3_addBatch 32 = .ok (.aload_n 0, 1) := by decide +kernel
theorem dX3_addBatch_33 : decode cX3_addBatch 33 = .ok (.getfield 41, 3) := by decide +kernel
theorem dX3_addBatch_36 : decode cX3_addBatch 36 = .ok (.istore 5, 2) := by decide +kernel
theorem dX3_addBatch_38 : decode cX3_addBatch 38 = .ok (.aload_n 0, 1) := by decide +kernel
theorem dX3_addBatch_39 : decode cX3_addBatch 39 = .ok (.getfield 27, 3) := by decide +kernel
theorem dX3_addBatch_42 : decode cX3_addBatch 42 = .ok (.iload 5, 2) := by decide +kernel
theorem dX3_addBatch_44 : decode cX3_addBatch 44 = .ok (.iconst 1, 1) := by decide +kernel
theorem dX3_addBatch_45 : decode cX3_addBatch 45 = .ok (.iload_n 1, 1) := by decide +kernel
theorem dX3_addBatch_46 : decode cX3_addBatch 46 = .ok (.ishl, 1) := by decide +kernel
theorem dX3_addBatch_47 : decode cX3_addBatch 47 = .ok (.iconst 1, 1) := by decide +kernel
theorem dX3_addBatch_48 : decode cX3_addBatch 48 = .ok (.iload_n 2, 1) := by decide +kernel
theorem dX3_addBatch_49 : decode cX3_addBatch 49 = .ok (.ishl, 1) := by decide +kernel
theorem dX3_addBatch_50 : decode cX3_addBatch 50 = .ok (.ior, 1) := by decide +kernel
theorem dX3_addBatch_51 : decode cX3_addBatch 51 = .ok (.iconst 1, 1) := by decide +kernel
theorem dX3_addBatch_52 : decode cX3_addBatch 52 = .ok (.iload_n 3, 1) := by decide +kernel
theorem dX3_addBatch_53 : decode cX3_addBatch 53 = .ok (.ishl, 1) := by decide +kernel
theorem dX3_addBatch_54 : decode cX3_addBatch 54 = .ok (.ior, 1) := by decide +kernel
theorem dX3_addBatch_55 : decode cX3_addBatch 55 = .ok (.iastore, 1) := by decide +kernel
theorem dX3_addBatch_56 : decode cX3_addBatch 56 = .ok (.aload_n 0, 1) := by decide +kernel
theorem dX3_addBatch_57 : decode cX3_addBatch 57 = .ok (.dup, 1) := by decide +kernel
theorem dX3_addBatch_58 : decode cX3_addBatch 58 = .ok (.getfield 41, 3) := by decide +kernel
theorem dX3_addBatch_61 : decode cX3_addBatch 61 = .ok (.iconst 1, 1) := by decide +kernel
theorem dX3_addBatch_62 : decode cX3_addBatch 62 = .ok (.iadd, 1) := by decide +kernel
theorem dX3_addBatch_63 : decode cX3_addBatch 63 = .ok (.putfield 41, 3) := by decide +kernel
theorem dX3_addBatch_66 : decode cX3_addBatch 66 = .ok (.iload 5, 2) := by decide +kernel
theorem dX3_addBatch_68 : decode cX3_addBatch 68 = .ok (.ireturn, 1) := by decide +kernel
theorem dX3_use_0 : decode cX3_use 0 = .ok (.aload_n 0, 1) := by decide +kernel
theorem dX3_use_1 : decode cX3_use 1 = .ok (.getfield 15, 3) := by decide +kernel
theorem dX3_use_4 : decode cX3_use 4 = .ok (.iload_n 1, 1) := by decide +kernel
theorem dX3_use_5 : decode cX3_use 5 = .ok (.dup2, 1) := by decide +kernel
theorem dX3_use_6 : decode cX3_use 6 = .ok (.iaload, 1) := by decide +kernel
theorem dX3_use_7 : decode cX3_use 7 = .ok (.iload_n 2, 1) := by decide +kernel
theorem dX3_use_8 : decode cX3_use 8 = .ok (.isub, 1) := by decide +kernel
theorem dX3_use_9 : decode cX3_use 9 = .ok (.iastore, 1) := by decide +kernel
theorem dX3_use_10 : decode cX3_use 10 = .ok (.aload_n 0, 1) := by decide +kernel
theorem dX3_use_11 : decode cX3_use 11 = .ok (.getfield 18, 3) := by decide +kernel
theorem dX3_use_14 : decode cX3_use 14 = .ok (.iload_n 1, 1) := by decide +kernel
theorem dX3_use_15 : decode cX3_use 15 = .ok (.dup2, 1) := by decide +kernel
theorem dX3_use_16 : decode cX3_use 16 = .ok (.iaload, 1) := by decide +kernel
theorem dX3_use_17 : decode cX3_use 17 = .ok (.iload_n 2, 1) := by decide +kernel
theorem dX3_use_18 : decode cX3_use 18 = .ok (.iadd, 1) := by decide +kernel
theorem dX3_use_19 : decode cX3_use 19 = .ok (.iastore, 1) := by decide +kernel
theorem dX3_use_20 : decode cX3_use 20 = .ok (.return_, 1) := by decide +kernel
theorem dX3_batchesOf_0 : decode cX3_batchesOf 0 = .ok (.iconst 0, 1) := by decide +kernel
theorem dX3_batchesOf_1 : decode cX3_batchesOf 1 = .ok (.istore 4, 2) := by decide +kernel
theorem dX3_batchesOf_3 : decode cX3_batchesOf 3 = .ok (.iconst 0, 1) := by decide +kernel
theorem dX3_batchesOf_4 : decode cX3_batchesOf 4 = .ok (.istore 5, 2) := by decide +kernel
theorem dX3_batchesOf_6 : decode cX3_batchesOf 6 = .ok (.iload 5, 2) := by decide +kernel
theorem dX3_batchesOf_8 : decode cX3_batchesOf 8 = .ok (.aload_n 0, 1) := by decide +kernel
theorem dX3_batchesOf_9 : decode cX3_batchesOf 9 = .ok (.getfield 41, 3) := by decide +kernel
theorem dX3_batchesOf_12 : decode cX3_batchesOf 12 = .ok (.if_icmp .ge 37, 3) := by decide +kernel
theorem dX3_batchesOf_15 : decode cX3_batchesOf 15 = .ok (.lload_n 2, 1) := by decide +kernel
theorem dX3_batchesOf_16 : decode cX3_batchesOf 16 = .ok (.iload 5, 2) := by decide +kernel
theorem dX3_batchesOf_18 : decode cX3_batchesOf 18 = .ok (.lshr, 1) := by decide +kernel
theorem dX3_batchesOf_19 : decode cX3_batchesOf 19 = .ok (.lconst 1, 1) := by decide +kernel
theorem dX3_batchesOf_20 : decode cX3_batchesOf 20 = .ok (.land, 1) := by decide +kernel
theorem dX3_batchesOf_21 : decode cX3_batchesOf 21 = .ok (.lconst 0, 1) := by decide +kernel
theorem dX3_batchesOf_22 : decode cX3_batchesOf 22 = .ok (.lcmp, 1) := by decide +kernel
theorem dX3_batchesOf_23 : decode cX3_batchesOf 23 = .ok (.ifCond .eq 20, 3) := by decide +kernel
theorem dX3_batchesOf_26 : decode cX3_batchesOf 26 = .ok (.aload_n 0, 1) := by decide +kernel
theorem dX3_batchesOf_27 : decode cX3_batchesOf 27 = .ok (.getfield 27, 3) := by decide +kernel
theorem dX3_batchesOf_30 : decode cX3_batchesOf 30 = .ok (.iload 5, 2) := by decide +kernel
theorem dX3_batchesOf_32 : decode cX3_batchesOf 32 = .ok (.iaload, 1) := by decide +kernel
theorem dX3_batchesOf_33 : decode cX3_batchesOf 33 = .ok (.iload_n 1, 1) := by decide +kernel
theorem dX3_batchesOf_34 : decode cX3_batchesOf 34 = .ok (.ishr, 1) := by decide +kernel
theorem dX3_batchesOf_35 : decode cX3_batchesOf 35 = .ok (.iconst 1, 1) := by decide +kernel
theorem dX3_batchesOf_36 : decode cX3_batchesOf 36 = .ok (.iand, 1) := by decide +kernel
theorem dX3_batchesOf_37 : decode cX3_batchesOf 37 = .ok (.ifCond .eq 6, 3) := by decide +kernel
theorem dX3_batchesOf_40 : decode cX3_batchesOf 40 = .ok (.iinc 4 1, 3) := by decide +kernel
theorem dX3_batchesOf_43 : decode cX3_batchesOf 43 = .ok (.iinc 5 1, 3) := by decide +kernel
theorem dX3_batchesOf_46 : decode cX3_batchesOf 46 = .ok (.goto (-40), 3) := by decide +kernel
theorem dX3_batchesOf_49 : decode cX3_batchesOf 49 = .ok (.iload 4, 2) := by decide +kernel
theorem dX3_batchesOf_51 : decode cX3_batchesOf 51 = .ok (.ireturn, 1) := by decide +kernel
theorem dX3_lotsOf_0 : decode cX3_lotsOf 0 = .ok (.iconst 0, 1) := by decide +kernel
theorem dX3_lotsOf_1 : decode cX3_lotsOf 1 = .ok (.istore_n 3, 1) := by decide +kernel
theorem dX3_lotsOf_2 : decode cX3_lotsOf 2 = .ok (.iconst 0, 1) := by decide +kernel
theorem dX3_lotsOf_3 : decode cX3_lotsOf 3 = .ok (.istore 4, 2) := by decide +kernel
theorem dX3_lotsOf_5 : decode cX3_lotsOf 5 = .ok (.iload 4, 2) := by decide +kernel
theorem dX3_lotsOf_7 : decode cX3_lotsOf 7 = .ok (.aload_n 0, 1) := by decide +kernel
theorem dX3_lotsOf_8 : decode cX3_lotsOf 8 = .ok (.getfield 41, 3) := by decide +kernel
theorem dX3_lotsOf_11 : decode cX3_lotsOf 11 = .ok (.if_icmp .ge 30, 3) := by decide +kernel
theorem dX3_lotsOf_14 : decode cX3_lotsOf 14 = .ok (.lload_n 1, 1) := by decide +kernel
theorem dX3_lotsOf_15 : decode cX3_lotsOf 15 = .ok (.iload 4, 2) := by decide +kernel
theorem dX3_lotsOf_17 : decode cX3_lotsOf 17 = .ok (.lshr, 1) := by decide +kernel
theorem dX3_lotsOf_18 : decode cX3_lotsOf 18 = .ok (.lconst 1, 1) := by decide +kernel
theorem dX3_lotsOf_19 : decode cX3_lotsOf 19 = .ok (.land, 1) := by decide +kernel
theorem dX3_lotsOf_20 : decode cX3_lotsOf 20 = .ok (.lconst 0, 1) := by decide +kernel
theorem dX3_lotsOf_21 : decode cX3_lotsOf 21 = .ok (.lcmp, 1) := by decide +kernel
theorem dX3_lotsOf_22 : decode cX3_lotsOf 22 = .ok (.ifCond .eq 13, 3) := by decide +kernel
theorem dX3_lotsOf_25 : decode cX3_lotsOf 25 = .ok (.iload_n 3, 1) := by decide +kernel
theorem dX3_lotsOf_26 : decode cX3_lotsOf 26 = .ok (.aload_n 0, 1) := by decide +kernel
theorem dX3_lotsOf_27 : decode cX3_lotsOf 27 = .ok (.getfield 27, 3) := by decide +kernel
theorem dX3_lotsOf_30 : decode cX3_lotsOf 30 = .ok (.iload 4, 2) := by decide +kernel
theorem dX3_lotsOf_32 : decode cX3_lotsOf 32 = .ok (.iaload, 1) := by decide +kernel
theorem dX3_lotsOf_33 : decode cX3_lotsOf 33 = .ok (.ior, 1) := by decide +kernel
theorem dX3_lotsOf_34 : decode cX3_lotsOf 34 = .ok (.istore_n 3, 1) := by decide +kernel
theorem dX3_lotsOf_35 : decode cX3_lotsOf 35 = .ok (.iinc 4 1, 3) := by decide +kernel
theorem dX3_lotsOf_38 : decode cX3_lotsOf 38 = .ok (.goto (-33), 3) := by decide +kernel
theorem dX3_lotsOf_41 : decode cX3_lotsOf 41 = .ok (.iload_n 3, 1) := by decide +kernel
theorem dX3_lotsOf_42 : decode cX3_lotsOf 42 = .ok (.ireturn, 1) := by decide +kernel
theorem dX4_init_0 : decode cX4_init 0 = .ok (.aload_n 0, 1) := by decide +kernel
theorem dX4_init_1 : decode cX4_init 1 = .ok (.invokespecial 3, 3) := by decide +kernel
theorem dX4_init_4 : decode cX4_init 4 = .ok (.aload_n 0, 1) := by decide +kernel
theorem dX4_init_5 : decode cX4_init 5 = .ok (.bipush 42, 2) := by decide +kernel
theorem dX4_init_7 : decode cX4_init 7 = .ok (.newarray .int, 2) := by decide +kernel
theorem dX4_init_9 : decode cX4_init 9 = .ok (.putfield 9, 3) := by decide +kernel
theorem dX4_init_12 : decode cX4_init 12 = .ok (.aload_n 0, 1) := by decide +kernel
theorem dX4_init_13 : decode cX4_init 13 = .ok (.iconst (-1), 1) := by decide +kernel
theorem dX4_init_14 : decode cX4_init 14 = .ok (.putfield 15, 3) := by decide +kernel
theorem dX4_init_17 : decode cX4_init 17 = .ok (.aload_n 0, 1) := by decide +kernel
theorem dX4_init_18 : decode cX4_init 18 = .ok (.bipush 6, 2) := by decide +kernel
theorem dX4_init_20 : decode cX4_init 20 = .ok (.newarray .int, 2) := by decide +kernel
theorem dX4_init_22 : decode cX4_init 22 = .ok (.putfield 19, 3) := by decide +kernel
theorem dX4_init_25 : decode cX4_init 25 = .ok (.aload_n 0, 1) := by decide +kernel
theorem dX4_init_26 : decode cX4_init 26 = .ok (.bipush 6, 2) := by decide +kernel
theorem dX4_init_28 : decode cX4_init 28 = .ok (.newarray .int, 2) := by decide +kernel
theorem dX4_init_30 : decode cX4_init 30 = .ok (.putfield 22, 3) := by decide +kernel
theorem dX4_init_33 : decode cX4_init 33 = .ok (.aload_n 0, 1) := by decide +kernel
theorem dX4_init_34 : decode cX4_init 34 = .ok (.bipush 6, 2) := by decide +kernel
theorem dX4_init_36 : decode cX4_init 36 = .ok (.newarray .int, 2) := by decide +kernel
theorem dX4_init_38 : decode cX4_init 38 = .ok (.putfield 25, 3) := by decide +kernel
theorem dX4_init_41 : decode cX4_init 41 = .ok (.aload_n 0, 1) := by decide +kernel
theorem dX4_init_42 : decode cX4_init 42 = .ok (.sipush 1944, 3) := by decide +kernel
theorem dX4_init_45 : decode cX4_init 45 = .ok (.newarray .int, 2) := by decide +kernel
theorem dX4_init_47 : decode cX4_init 47 = .ok (.putfield 28, 3) := by decide +kernel
theorem dX4_init_50 : decode cX4_init 50 = .ok (.return_, 1) := by decide +kernel
theorem dX4_add_0 : decode cX4_add 0 = .ok (.aload_n 0, 1) := by decide +kernel
theorem dX4_add_1 : decode cX4_add 1 = .ok (.getfield 19, 3) := by decide +kernel
theorem dX4_add_4 : decode cX4_add 4 = .ok (.iload_n 1, 1) := by decide +kernel
theorem dX4_add_5 : decode cX4_add 5 = .ok (.dup2, 1) := by decide +kernel
theorem dX4_add_6 : decode cX4_add 6 = .ok (.iaload, 1) := by decide +kernel
theorem dX4_add_7 : decode cX4_add 7 = .ok (.iconst 1, 1) := by decide +kernel
theorem dX4_add_8 : decode cX4_add 8 = .ok (.iadd, 1) := by decide +kernel
theorem dX4_add_9 : decode cX4_add 9 = .ok (.iastore, 1) := by decide +kernel
theorem dX4_add_10 : decode cX4_add 10 = .ok (.aload_n 0, 1) := by decide +kernel
theorem dX4_add_11 : decode cX4_add 11 = .ok (.dup, 1) := by decide +kernel
theorem dX4_add_12 : decode cX4_add 12 = .ok (.getfield 31, 3) := by decide +kernel
theorem dX4_add_15 : decode cX4_add 15 = .ok (.iconst 1, 1) := by decide +kernel
theorem dX4_add_16 : decode cX4_add 16 = .ok (.iadd, 1) := by decide +kernel
theorem dX4_add_17 : decode cX4_add 17 = .ok (.putfield 31, 3) := by decide +kernel
theorem dX4_add_20 : decode cX4_add 20 = .ok (.aload_n 0, 1) := by decide +kernel
theorem dX4_add_21 : decode cX4_add 21 = .ok (.getfield 31, 3) := by decide +kernel
theorem dX4_add_24 : decode cX4_add 24 = .ok (.ireturn, 1) := by decide +kernel
set_option maxRecDepth 20000 in
theorem ggX4_runJobs_X4_setWeights : GoodIn wsX4_runJobs wsX4_setWeights := goodIn_r _ [6, 7, 8, 9, 10, 11, 12, 37, 38, 39, 40, 41, 42, 43] (by decide +kernel) (by decide +kernel)
set_option maxRecDepth 20000 in
theorem gX4_runJobs_X4_setWeights : GoodIn wsX4_runJobs (wsV RX4 34 RX4 yX4_setWeights wsX4_setWeights) := goodIn_app (goodIn_of _ (by decide +kernel)) ggX4_runJobs_X4_setWeights
set_option maxRecDepth 20000 in
theorem ggX4_runJobs_X4_setLeft : GoodIn wsX4_runJobs wsX4_setLeft := goodIn_r _ [16, 8, 7, 17, 37, 38, 39, 40, 41, 42, 43] (by decide +kernel) (by decide +kernel)
set_option maxRecDepth 20000 in
theorem gX4_runJobs_X4_setLeft : GoodIn wsX4_runJobs (wsV RX4 38 RX4 yX4_setLeft wsX4_setLeft) := goodIn_app (goodIn_of _ (by decide +kernel)) ggX4_runJobs_X4_setLeft
set_option maxRecDepth 20000 in
theorem ggX4_runJobs_X4_bestNext : GoodIn wsX4_runJobs wsX4_bestNext := goodIn_r _ [21, 17, 22, 23, 24, 5, 25, 26, 1, 7, 37, 38, 39, 40, 41, 42, 43] (by decide +kernel) (by decide +kernel)
set_option maxRecDepth 20000 in
theorem gX4_runJobs_X4_bestNext : GoodIn wsX4_runJobs (wsV RX4 42 RX4 yX4_bestNext wsX4_bestNext) := goodIn_app (goodIn_of _ (by decide +kernel)) ggX4_runJobs_X4_bestNext
set_option maxRecDepth 20000 in
theorem ggX4_runJobs_X4_costThrough : GoodIn wsX4_runJobs wsX4_costThrough := goodIn_r _ [25, 26, 1, 7, 37, 38, 39, 40, 41, 42, 43] (by decide +kernel) (by decide +kernel)
set_option maxRecDepth 20000 in
theorem gX4_runJobs_X4_costThrough : GoodIn wsX4_runJobs (wsV RX4 46 RX4 yX4_costThrough wsX4_costThrough) := goodIn_app (goodIn_of _ (by decide +kernel)) ggX4_runJobs_X4_costThrough
set_option maxRecDepth 20000 in
theorem ggX4_runJobs_X4_walkBestOrder : GoodIn wsX4_runJobs wsX4_walkBestOrder := goodIn_r _ [30, 31, 32, 26, 7, 13, 14, 15, 5, 16, 8, 17, 18, 19, 20, 21, 22, 23, 24, 25, 1, 37, 38, 39, 40, 41, 42, 43] (by decide +kernel) (by decide +kernel)
set_option maxRecDepth 20000 in
theorem gX4_runJobs_X4_walkBestOrder : GoodIn wsX4_runJobs (wsV RX4 50 RX4 yX4_walkBestOrder wsX4_walkBestOrder) := goodIn_app (goodIn_of _ (by decide +kernel)) ggX4_runJobs_X4_walkBestOrder
set_option maxRecDepth 20000 in
theorem ggX4_runJobs_X4_clearJobs : GoodIn wsX4_runJobs wsX4_clearJobs := goodIn_r _ [36, 31, 8, 37, 38, 39, 40, 41, 42, 43] (by decide +kernel) (by decide +kernel)
set_option maxRecDepth 20000 in
theorem gX4_runJobs_X4_clearJobs : GoodIn wsX4_runJobs (wsV RX4 54 RX4 yX4_clearJobs wsX4_clearJobs) := goodIn_app (goodIn_of _ (by decide +kernel)) ggX4_runJobs_X4_clearJobs
theorem dX4_runJobs_0 : decode cX4_runJobs 0 = .ok (.aload_n 0, 1) := by decide +kernel
theorem dX4_runJobs_1 : decode cX4_runJobs 1 = .ok (.invokevirtual 34, 3) := by decide +kernel
theorem dX4_runJobs_4 : decode cX4_runJobs 4 = .ok (.istore_n 1, 1) := by decide +kernel
theorem dX4_runJobs_5 : decode cX4_runJobs 5 = .ok (.iconst 1, 1) := by decide +kernel
theorem dX4_runJobs_6 : decode cX4_runJobs 6 = .ok (.istore_n 2, 1) := by decide +kernel
theorem dX4_runJobs_7 : decode cX4_runJobs 7 = .ok (.iload_n 2, 1) := by decide +kernel
theorem dX4_runJobs_8 : decode cX4_runJobs 8 = .ok (.iload_n 1, 1) := by decide +kernel
theorem dX4_runJobs_9 : decode cX4_runJobs 9 = .ok (.if_icmp .ge 51, 3) := by decide +kernel
theorem dX4_runJobs_12 : decode cX4_runJobs 12 = .ok (.aload_n 0, 1) := by decide +kernel
theorem dX4_runJobs_13 : decode cX4_runJobs 13 = .ok (.iload_n 2, 1) := by decide +kernel
theorem dX4_runJobs_14 : decode cX4_runJobs 14 = .ok (.invokevirtual 38, 3) := by decide +kernel
theorem dX4_runJobs_17 : decode cX4_runJobs 17 = .ok (.iconst 0, 1) := by decide +kernel
theorem dX4_runJobs_18 : decode cX4_runJobs 18 = .ok (.istore_n 3, 1) := by decide +kernel
theorem dX4_runJobs_19 : decode cX4_runJobs 19 = .ok (.iload_n 3, 1) := by decide +kernel
theorem dX4_runJobs_20 : decode cX4_runJobs 20 = .ok (.bipush 6, 2) := by decide +kernel
theorem dX4_runJobs_22 : decode cX4_runJobs 22 = .ok (.if_icmp .ge 32, 3) := by decide +kernel
theorem dX4_runJobs_25 : decode cX4_runJobs 25 = .ok (.aload_n 0, 1) := by decide +kernel
theorem dX4_runJobs_26 : decode cX4_runJobs 26 = .ok (.getfield 28, 3) := by decide +kernel
theorem dX4_runJobs_29 : decode cX4_runJobs 29 = .ok (.iload_n 2, 1) := by decide +kernel
theorem dX4_runJobs_30 : decode cX4_runJobs 30 = .ok (.bipush 6, 2) := by decide +kernel
theorem dX4_runJobs_32 : decode cX4_runJobs 32 = .ok (.imul, 1) := by decide +kernel
theorem dX4_runJobs_33 : decode cX4_runJobs 33 = .ok (.iload_n 3, 1) := by decide +kernel
theorem dX4_runJobs_34 : decode cX4_runJobs 34 = .ok (.iadd, 1) := by decide +kernel
theorem dX4_runJobs_35 : decode cX4_runJobs 35 = .ok (.aload_n 0, 1) := by decide +kernel
theorem dX4_runJobs_36 : decode cX4_runJobs 36 = .ok (.iload_n 2, 1) := by decide +kernel
theorem dX4_runJobs_37 : decode cX4_runJobs 37 = .ok (.iload_n 3, 1) := by decide +kernel
theorem dX4_runJobs_38 : decode cX4_runJobs 38 = .ok (.aload_n 0, 1) := by decide +kernel
theorem dX4_runJobs_39 : decode cX4_runJobs 39 = .ok (.iload_n 2, 1) := by decide +kernel
theorem dX4_runJobs_40 : decode cX4_runJobs 40 = .ok (.iload_n 3, 1) := by decide +kernel
theorem dX4_runJobs_41 : decode cX4_runJobs 41 = .ok (.invokevirtual 42, 3) := by decide +kernel
theorem dX4_runJobs_44 : decode cX4_runJobs 44 = .ok (.invokevirtual 46, 3) := by decide +kernel
theorem dX4_runJobs_47 : decode cX4_runJobs 47 = .ok (.iastore, 1) := by decide +kernel
theorem dX4_runJobs_48 : decode cX4_runJobs 48 = .ok (.iinc 3 1, 3) := by decide +kernel
theorem dX4_runJobs_51 : decode cX4_runJobs 51 = .ok (.goto (-32), 3) := by decide +kernel
theorem dX4_runJobs_54 : decode cX4_runJobs 54 = .ok (.iinc 2 1, 3) := by decide +kernel
theorem dX4_runJobs_57 : decode cX4_runJobs 57 = .ok (.goto (-50), 3) := by decide +kernel
theorem dX4_runJobs_60 : decode cX4_runJobs 60 = .ok (.aload_n 0, 1) := by decide +kernel
theorem dX4_runJobs_61 : decode cX4_runJobs 61 = .ok (.iload_n 1, 1) := by decide +kernel
theorem dX4_runJobs_62 : decode cX4_runJobs 62 = .ok (.iconst 1, 1) := by decide +kernel
theorem dX4_runJobs_63 : decode cX4_runJobs 63 = .ok (.isub, 1) := by decide +kernel
theorem dX4_runJobs_64 : decode cX4_runJobs 64 = .ok (.invokevirtual 50, 3) := by decide +kernel
theorem dX4_runJobs_67 : decode cX4_runJobs 67 = .ok (.istore_n 2, 1) := by decide +kernel
theorem dX4_runJobs_68 : decode cX4_runJobs 68 = .ok (.aload_n 0, 1) := by decide +kernel
theorem dX4_runJobs_69 : decode cX4_runJobs 69 = .ok (.invokevirtual 54, 3) := by decide +kernel
theorem dX4_runJobs_72 : decode cX4_runJobs 72 = .ok (.iload_n 2, 1) := by decide +kernel
theorem dX4_runJobs_73 : decode cX4_runJobs 73 = .ok (.ireturn, 1) := by decide +kernel
theorem dX4_setWeights_0 : decode cX4_setWeights 0 = .ok (.iconst 1, 1) := by decide +kernel
theorem dX4_setWeights_1 : decode cX4_setWeights 1 = .ok (.istore_n 1, 1) := by decide +kernel
theorem dX4_setWeights_2 : decode cX4_setWeights 2 = .ok (.iconst 0, 1) := by decide +kernel
theorem dX4_setWeights_3 : decode cX4_setWeights 3 = .ok (.istore_n 2, 1) := by decide +kernel
theorem dX4_setWeights_4 : decode cX4_setWeights 4 = .ok (.iload_n 2, 1) := by decide +kernel
theorem dX4_setWeights_5 : decode cX4_setWeights 5 = .ok (.bipush 6, 2) := by decide +kernel
theorem dX4_setWeights_7 : decode cX4_setWeights 7 = .ok (.if_icmp .ge 27, 3) := by decide +kernel
theorem dX4_setWeights_10 : decode cX4_setWeights 10 = .ok (.aload_n 0, 1) := by decide +kernel
theorem dX4_setWeights_11 : decode cX4_setWeights 11 = .ok (.getfield 22, 3) := by decide +kernel
theorem dX4_setWeights_14 : decode cX4_setWeights 14 = .ok (.iload_n 2, 1) := by decide +kernel
theorem dX4_setWeights_15 : decode cX4_setWeights 15 = .ok (.iload_n 1, 1) := by decide +kernel
theorem dX4_setWeights_16 : decode cX4_setWeights 16 = .ok (.iastore, 1) := by decide +kernel
theorem dX4_setWeights_17 : decode cX4_setWeights 17 = .ok (.iload_n 1, 1) := by decide +kernel
theorem dX4_setWeights_18 : decode cX4_setWeights 18 = .ok (.aload_n 0, 1) := by decide +kernel
theorem dX4_setWeights_19 : decode cX4_setWeights 19 = .ok (.getfield 19, 3) := by decide +kernel
theorem dX4_setWeights_22 : decode cX4_setWeights 22 = .ok (.iload_n 2, 1) := by decide +kernel
theorem dX4_setWeights_23 : decode cX4_setWeights 23 = .ok (.iaload, 1) := by decide +kernel
theorem dX4_setWeights_24 : decode cX4_setWeights 24 = .ok (.iconst 1, 1) := by decide +kernel
theorem dX4_setWeights_25 : decode cX4_setWeights 25 = .ok (.iadd, 1) := by decide +kernel
theorem dX4_setWeights_26 : decode cX4_setWeights 26 = .ok (.imul, 1) := by decide +kernel
theorem dX4_setWeights_27 : decode cX4_setWeights 27 = .ok (.istore_n 1, 1) := by decide +kernel
theorem dX4_setWeights_28 : decode cX4_setWeights 28 = .ok (.iinc 2 1, 3) := by decide +kernel
theorem dX4_setWeights_31 : decode cX4_setWeights 31 = .ok (.goto (-27), 3) := by decide +kernel
theorem dX4_setWeights_34 : decode cX4_setWeights 34 = .ok (.iload_n 1, 1) := by decide +kernel
theorem dX4_setWeights_35 : decode cX4_setWeights 35 = .ok (.sipush 324, 3) := by decide +kernel
theorem dX4_setWeights_38 : decode cX4_setWeights 38 = .ok (.invokestatic 57, 3) := by decide +kernel
theorem dX4_setWeights_41 : decode cX4_setWeights 41 = .ok (.ireturn, 1) := by decide +kernel
theorem dX4_setLeft_0 : decode cX4_setLeft 0 = .ok (.iload_n 1, 1) := by decide +kernel
theorem dX4_setLeft_1 : decode cX4_setLeft 1 = .ok (.istore_n 2, 1) := by decide +kernel
theorem dX4_setLeft_2 : decode cX4_setLeft 2 = .ok (.iconst 5, 1) := by decide +kernel
theorem dX4_setLeft_3 : decode cX4_setLeft 3 = .ok (.istore_n 3, 1) := by decide +kernel
theorem dX4_setLeft_4 : decode cX4_setLeft 4 = .ok (.iload_n 3, 1) := by decide +kernel
theorem dX4_setLeft_5 : decode cX4_setLeft 5 = .ok (.ifCond .lt 56, 3) := by decide +kernel
theorem dX4_setLeft_8 : decode cX4_setLeft 8 = .ok (.iconst 0, 1) := by decide +kernel
theorem dX4_setLeft_9 : decode cX4_setLeft 9 = .ok (.istore 4, 2) := by decide +kernel
theorem dX4_setLeft_11 : decode cX4_setLeft 11 = .ok (.iload 4, 2) := by decide +kernel
theorem dX4_setLeft_13 : decode cX4_setLeft 13 = .ok (.aload_n 0, 1) := by decide +kernel
theorem dX4_setLeft_14 : decode cX4_setLeft 14 = .ok (.getfield 19, 3) := by decide +kernel
theorem dX4_setLeft_17 : decode cX4_setLeft 17 = .ok (.iload_n 3, 1) := by decide +kernel
theorem dX4_setLeft_18 : decode cX4_setLeft 18 = .ok (.iaload, 1) := by decide +kernel
theorem dX4_setLeft_19 : decode cX4_setLeft 19 = .ok (.if_icmp .ge 28, 3) := by decide +kernel
theorem dX4_setLeft_22 : decode cX4_setLeft 22 = .ok (.iload_n 2, 1) := by decide +kernel
theorem dX4_setLeft_23 : decode cX4_setLeft 23 = .ok (.aload_n 0, 1) := by decide +kernel
theorem dX4_setLeft_24 : decode cX4_setLeft 24 = .ok (.getfield 22, 3) := by decide +kernel
theorem dX4_setLeft_27 : decode cX4_setLeft 27 = .ok (.iload_n 3, 1) := by decide +kernel
theorem dX4_setLeft_28 : decode cX4_setLeft 28 = .ok (.iaload, 1) := by decide +kernel
theorem dX4_setLeft_29 : decode cX4_setLeft 29 = .ok (.if_icmp .lt 18, 3) := by decide +kernel
theorem dX4_setLeft_32 : decode cX4_setLeft 32 = .ok (.iload_n 2, 1) := by decide +kernel
theorem dX4_setLeft_33 : decode cX4_setLeft 33 = .ok (.aload_n 0, 1) := by decide +kernel
theorem dX4_setLeft_34 : decode cX4_setLeft 34 = .ok (.getfield 22, 3) := by decide +kernel
theorem dX4_setLeft_37 : decode cX4_setLeft 37 = .ok (.iload_n 3, 1) := by decide +kernel
theorem dX4_setLeft_38 : decode cX4_setLeft 38 = .ok (.iaload, 1) := by decide +kernel
theorem dX4_setLeft_39 : decode cX4_setLeft 39 = .ok (.isub, 1) := by decide +kernel
theorem dX4_setLeft_40 : decode cX4_setLeft 40 = .ok (.istore_n 2, 1) := by decide +kernel
theorem dX4_setLeft_41 : decode cX4_setLeft 41 = .ok (.iinc 4 1, 3) := by decide +kernel
theorem dX4_setLeft_44 : decode cX4_setLeft 44 = .ok (.goto (-33), 3) := by decide +kernel
theorem dX4_setLeft_47 : decode cX4_setLeft 47 = .ok (.aload_n 0, 1) := by decide +kernel
theorem dX4_setLeft_48 : decode cX4_setLeft 48 = .ok (.getfield 25, 3) := by decide +kernel
theorem dX4_setLeft_51 : decode cX4_setLeft 51 = .ok (.iload_n 3, 1) := by decide +kernel
theorem dX4_setLeft_52 : decode cX4_setLeft 52 = .ok (.iload 4, 2) := by decide +kernel
theorem dX4_setLeft_54 : decode cX4_setLeft 54 = .ok (.iastore, 1) := by decide +kernel
theorem dX4_setLeft_55 : decode cX4_setLeft 55 = .ok (.iinc 3 (-1), 3) := by decide +kernel
theorem dX4_setLeft_58 : decode cX4_setLeft 58 = .ok (.goto (-54), 3) := by decide +kernel
theorem dX4_setLeft_61 : decode cX4_setLeft 61 = .ok (.return_, 1) := by decide +kernel
set_option maxRecDepth 20000 in
theorem ggX4_bestNext_X4_costThrough : GoodIn wsX4_bestNext wsX4_costThrough := goodIn_r _ [6, 7, 8, 9, 10, 11, 12, 13, 14, 15, 16] (by decide +kernel) (by decide +kernel)
set_option maxRecDepth 20000 in
theorem gX4_bestNext_X4_costThrough : GoodIn wsX4_bestNext (wsV RX4 46 RX4 yX4_costThrough wsX4_costThrough) := goodIn_app (goodIn_of _ (by decide +kernel)) ggX4_bestNext_X4_costThrough
theorem dX4_bestNext_0 : decode cX4_bestNext 0 = .ok (.iconst (-1), 1) := by decide +kernel
theorem dX4_bestNext_1 : decode cX4_bestNext 1 = .ok (.istore_n 3, 1) := by decide +kernel
theorem dX4_bestNext_2 : decode cX4_bestNext 2 = .ok (.iconst 0, 1) := by decide +kernel
theorem dX4_bestNext_3 : decode cX4_bestNext 3 = .ok (.istore 4, 2) := by decide +kernel
theorem dX4_bestNext_5 : decode cX4_bestNext 5 = .ok (.iconst 0, 1) := by decide +kernel
theorem dX4_bestNext_6 : decode cX4_bestNext 6 = .ok (.istore 5, 2) := by decide +kernel
theorem dX4_bestNext_8 : decode cX4_bestNext 8 = .ok (.iload 5, 2) := by decide +kernel
theorem dX4_bestNext_10 : decode cX4_bestNext 10 = .ok (.bipush 6, 2) := by decide +kernel
theorem dX4_bestNext_12 : decode cX4_bestNext 12 = .ok (.if_icmp .ge 48, 3) := by decide +kernel
theorem dX4_bestNext_15 : decode cX4_bestNext 15 = .ok (.aload_n 0, 1) := by decide +kernel
theorem dX4_bestNext_16 : decode cX4_bestNext 16 = .ok (.getfield 25, 3) := by decide +kernel
theorem dX4_bestNext_19 : decode cX4_bestNext 19 = .ok (.iload 5, 2) := by decide +kernel
theorem dX4_bestNext_21 : decode cX4_bestNext 21 = .ok (.iaload, 1) := by decide +kernel
theorem dX4_bestNext_22 : decode cX4_bestNext 22 = .ok (.ifCond .le 32, 3) := by decide +kernel
theorem dX4_bestNext_25 : decode cX4_bestNext 25 = .ok (.aload_n 0, 1) := by decide +kernel
theorem dX4_bestNext_26 : decode cX4_bestNext 26 = .ok (.iload_n 1, 1) := by decide +kernel
theorem dX4_bestNext_27 : decode cX4_bestNext 27 = .ok (.iload_n 2, 1) := by decide +kernel
theorem dX4_bestNext_28 : decode cX4_bestNext 28 = .ok (.iload 5, 2) := by decide +kernel
theorem dX4_bestNext_30 : decode cX4_bestNext 30 = .ok (.invokevirtual 46, 3) := by decide +kernel
theorem dX4_bestNext_33 : decode cX4_bestNext 33 = .ok (.istore 6, 2) := by decide +kernel
theorem dX4_bestNext_35 : decode cX4_bestNext 35 = .ok (.iload_n 3, 1) := by decide +kernel
theorem dX4_bestNext_36 : decode cX4_bestNext 36 = .ok (.iconst (-1), 1) := by decide +kernel
theorem dX4_bestNext_37 : decode cX4_bestNext 37 = .ok (.if_icmp .eq 10, 3) := by decide +kernel
theorem dX4_bestNext_40 : decode cX4_bestNext 40 = .ok (.iload 6, 2) := by decide +kernel
theorem dX4_bestNext_42 : decode cX4_bestNext 42 = .ok (.iload 4, 2) := by decide +kernel
theorem dX4_bestNext_44 : decode cX4_bestNext 44 = .ok (.if_icmp .ge 10, 3) := by decide +kernel
theorem dX4_bestNext_47 : decode cX4_bestNext 47 = .ok (.iload 5, 2) := by decide +kernel
theorem dX4_bestNext_49 : decode cX4_bestNext 49 = .ok (.istore_n 3, 1) := by decide +kernel
theorem dX4_bestNext_50 : decode cX4_bestNext 50 = .ok (.iload 6, 2) := by decide +kernel
theorem dX4_bestNext_52 : decode cX4_bestNext 52 = .ok (.istore 4, 2) := by decide +kernel
theorem dX4_bestNext_54 : decode cX4_bestNext 54 = .ok (.iinc 5 1, 3) := by decide +kernel
theorem dX4_bestNext_57 : decode cX4_bestNext 57 = .ok (.goto (-49), 3) := by decide +kernel
theorem dX4_bestNext_60 : decode cX4_bestNext 60 = .ok (.iload_n 3, 1) := by decide +kernel
theorem dX4_bestNext_61 : decode cX4_bestNext 61 = .ok (.ireturn, 1) := by decide +kernel
theorem dX4_costThrough_0 : decode cX4_costThrough 0 = .ok (.iload_n 3, 1) := by decide +kernel
theorem dX4_costThrough_1 : decode cX4_costThrough 1 = .ok (.iconst (-1), 1) := by decide +kernel
theorem dX4_costThrough_2 : decode cX4_costThrough 2 = .ok (.if_icmp .ne 5, 3) := by decide +kernel
theorem dX4_costThrough_5 : decode cX4_costThrough 5 = .ok (.iconst 0, 1) := by decide +kernel
theorem dX4_costThrough_6 : decode cX4_costThrough 6 = .ok (.ireturn, 1) := by decide +kernel
theorem dX4_costThrough_7 : decode cX4_costThrough 7 = .ok (.aload_n 0, 1) := by decide +kernel
theorem dX4_costThrough_8 : decode cX4_costThrough 8 = .ok (.getfield 9, 3) := by decide +kernel
theorem dX4_costThrough_11 : decode cX4_costThrough 11 = .ok (.iload_n 2, 1) := by decide +kernel
theorem dX4_costThrough_12 : decode cX4_costThrough 12 = .ok (.bipush 6, 2) := by decide +kernel
theorem dX4_costThrough_14 : decode cX4_costThrough 14 = .ok (.imul, 1) := by decide +kernel
theorem dX4_costThrough_15 : decode cX4_costThrough 15 = .ok (.iload_n 3, 1) := by decide +kernel
theorem dX4_costThrough_16 : decode cX4_costThrough 16 = .ok (.iadd, 1) := by decide +kernel
theorem dX4_costThrough_17 : decode cX4_costThrough 17 = .ok (.iaload, 1) := by decide +kernel
theorem dX4_costThrough_18 : decode cX4_costThrough 18 = .ok (.aload_n 0, 1) := by decide +kernel
theorem dX4_costThrough_19 : decode cX4_costThrough 19 = .ok (.getfield 28, 3) := by decide +kernel
theorem dX4_costThrough_22 : decode cX4_costThrough 22 = .ok (.iload_n 1, 1) := by decide +kernel
theorem dX4_costThrough_23 : decode cX4_costThrough 23 = .ok (.aload_n 0, 1) := by decide +kernel
theorem dX4_costThrough_24 : decode cX4_costThrough 24 = .ok (.getfield 22, 3) := by decide +kernel
theorem dX4_costThrough_27 : decode cX4_costThrough 27 = .ok (.iload_n 3, 1) := by decide +kernel
theorem dX4_costThrough_28 : decode cX4_costThrough 28 = .ok (.iaload, 1) := by decide +kernel
theorem dX4_costThrough_29 : decode cX4_costThrough 29 = .ok (.isub, 1) := by decide +kernel
theorem dX4_costThrough_30 : decode cX4_costThrough 30 = .ok (.bipush 6, 2) := by decide +kernel
theorem dX4_costThrough_32 : decode cX4_costThrough 32 = .ok (.imul, 1) := by decide +kernel
theorem dX4_costThrough_33 : decode cX4_costThrough 33 = .ok (.iload_n 3, 1) := by decide +kernel
theorem dX4_costThrough_34 : decode cX4_costThrough 34 = .ok (.iadd, 1) := by decide +kernel
theorem dX4_costThrough_35 : decode cX4_costThrough 35 = .ok (.iaload, 1) := by decide +kernel
theorem dX4_costThrough_36 : decode cX4_costThrough 36 = .ok (.iadd, 1) := by decide +kernel
theorem dX4_costThrough_37 : decode cX4_costThrough 37 = .ok (.ireturn, 1) := by decide +kernel
set_option maxRecDepth 20000 in
theorem ggX4_walkBestOrder_X4_setLeft : GoodIn wsX4_walkBestOrder wsX4_setLeft := goodIn_r _ [9, 10, 4, 11, 21, 22, 23, 24, 25, 26, 27] (by decide +kernel) (by decide +kernel)
set_option maxRecDepth 20000 in
theorem gX4_walkBestOrder_X4_setLeft : GoodIn wsX4_walkBestOrder (wsV RX4 38 RX4 yX4_setLeft wsX4_setLeft) := goodIn_app (goodIn_of _ (by decide +kernel)) ggX4_walkBestOrder_X4_setLeft
set_option maxRecDepth 20000 in
theorem ggX4_walkBestOrder_X4_bestNext : GoodIn wsX4_walkBestOrder wsX4_bestNext := goodIn_r _ [15, 11, 16, 17, 18, 8, 19, 3, 20, 4, 21, 22, 23, 24, 25, 26, 27] (by decide +kernel) (by decide +kernel)
set_option maxRecDepth 20000 in
theorem gX4_walkBestOrder_X4_bestNext : GoodIn wsX4_walkBestOrder (wsV RX4 42 RX4 yX4_bestNext wsX4_bestNext) := goodIn_app (goodIn_of _ (by decide +kernel)) ggX4_walkBestOrder_X4_bestNext
theorem dX4_walkBestOrder_0 : decode cX4_walkBestOrder 0 = .ok (.iconst 0, 1) := by decide +kernel
theorem dX4_walkBestOrder_1 : decode cX4_walkBestOrder 1 = .ok (.istore_n 2, 1) := by decide +kernel
theorem dX4_walkBestOrder_2 : decode cX4_walkBestOrder 2 = .ok (.iload_n 1, 1) := by decide +kernel
theorem dX4_walkBestOrder_3 : decode cX4_walkBestOrder 3 = .ok (.istore_n 3, 1) := by decide +kernel
theorem dX4_walkBestOrder_4 : decode cX4_walkBestOrder 4 = .ok (.iconst 0, 1) := by decide +kernel
theorem dX4_walkBestOrder_5 : decode cX4_walkBestOrder 5 = .ok (.istore 4, 2) := by decide +kernel
theorem dX4_walkBestOrder_7 : decode cX4_walkBestOrder 7 = .ok (.iload 4, 2) := by decide +kernel
theorem dX4_walkBestOrder_9 : decode cX4_walkBestOrder 9 = .ok (.aload_n 0, 1) := by decide +kernel
theorem dX4_walkBestOrder_10 : decode cX4_walkBestOrder 10 = .ok (.getfield 31, 3) := by decide +kernel
theorem dX4_walkBestOrder_13 : decode cX4_walkBestOrder 13 = .ok (.if_icmp .ge 83, 3) := by decide +kernel
theorem dX4_walkBestOrder_16 : decode cX4_walkBestOrder 16 = .ok (.aload_n 0, 1) := by decide +kernel
theorem dX4_walkBestOrder_17 : decode cX4_walkBestOrder 17 = .ok (.iload_n 3, 1) := by decide +kernel
theorem dX4_walkBestOrder_18 : decode cX4_walkBestOrder 18 = .ok (.invokevirtual 38, 3) := by decide +kernel
theorem dX4_walkBestOrder_21 : decode cX4_walkBestOrder 21 = .ok (.aload_n 0, 1) := by decide +kernel
theorem dX4_walkBestOrder_22 : decode cX4_walkBestOrder 22 = .ok (.getfield 15, 3) := by decide +kernel
theorem dX4_walkBestOrder_25 : decode cX4_walkBestOrder 25 = .ok (.iconst (-1), 1) := by decide +kernel
theorem dX4_walkBestOrder_26 : decode cX4_walkBestOrder 26 = .ok (.if_icmp .ne 8, 3) := by decide +kernel
theorem dX4_walkBestOrder_29 : decode cX4_walkBestOrder 29 = .ok (.bipush 6, 2) := by decide +kernel
theorem dX4_walkBestOrder_31 : decode cX4_walkBestOrder 31 = .ok (.goto 7, 3) := by decide +kernel
theorem dX4_walkBestOrder_34 : decode cX4_walkBestOrder 34 = .ok (.aload_n 0, 1) := by decide +kernel
theorem dX4_walkBestOrder_35 : decode cX4_walkBestOrder 35 = .ok (.getfield 15, 3) := by decide +kernel
theorem dX4_walkBestOrder_38 : decode cX4_walkBestOrder 38 = .ok (.istore 5, 2) := by decide +kernel
theorem dX4_walkBestOrder_40 : decode cX4_walkBestOrder 40 = .ok (.aload_n 0, 1) := by decide +kernel
theorem dX4_walkBestOrder_41 : decode cX4_walkBestOrder 41 = .ok (.iload_n 3, 1) := by decide +kernel
theorem dX4_walkBestOrder_42 : decode cX4_walkBestOrder 42 = .ok (.iload 5, 2) := by decide +kernel
theorem dX4_walkBestOrder_44 : decode cX4_walkBestOrder 44 = .ok (.invokevirtual 42, 3) := by decide +kernel
theorem dX4_walkBestOrder_47 : decode cX4_walkBestOrder 47 = .ok (.istore 6, 2) := by decide +kernel
theorem dX4_walkBestOrder_49 : decode cX4_walkBestOrder 49 = .ok (.iload 6, 2) := by decide +kernel
theorem dX4_walkBestOrder_51 : decode cX4_walkBestOrder 51 = .ok (.iconst (-1), 1) := by decide +kernel
theorem dX4_walkBestOrder_52 : decode cX4_walkBestOrder 52 = .ok (.if_icmp .ne 6, 3) := by decide +kernel
theorem dX4_walkBestOrder_55 : decode cX4_walkBestOrder 55 = .ok (.goto 41, 3) := by decide +kernel
theorem dX4_walkBestOrder_58 : decode cX4_walkBestOrder 58 = .ok (.iload_n 2, 1) := by decide +kernel
theorem dX4_walkBestOrder_59 : decode cX4_walkBestOrder 59 = .ok (.aload_n 0, 1) := by decide +kernel
theorem dX4_walkBestOrder_60 : decode cX4_walkBestOrder 60 = .ok (.getfield 9, 3) := by decide +kernel
theorem dX4_walkBestOrder_63 : decode cX4_walkBestOrder 63 = .ok (.iload 5, 2) := by decide +kernel
theorem dX4_walkBestOrder_65 : decode cX4_walkBestOrder 65 = .ok (.bipush 6, 2) := by decide +kernel
theorem dX4_walkBestOrder_67 : decode cX4_walkBestOrder 67 = .ok (.imul, 1) := by decide +kernel
theorem dX4_walkBestOrder_68 : decode cX4_walkBestOrder 68 = .ok (.iload 6, 2) := by decide +kernel
theorem dX4_walkBestOrder_70 : decode cX4_walkBestOrder 70 = .ok (.iadd, 1) := by decide +kernel
theorem dX4_walkBestOrder_71 : decode cX4_walkBestOrder 71 = .ok (.iaload, 1) := by decide +kernel
theorem dX4_walkBestOrder_72 : decode cX4_walkBestOrder 72 = .ok (.iadd, 1) := by decide +kernel
theorem dX4_walkBestOrder_73 : decode cX4_walkBestOrder 73 = .ok (.istore_n 2, 1) := by decide +kernel
theorem dX4_walkBestOrder_74 : decode cX4_walkBestOrder 74 = .ok (.iload_n 3, 1) := by decide +kernel
theorem dX4_walkBestOrder_75 : decode cX4_walkBestOrder 75 = .ok (.aload_n 0, 1) := by decide +kernel
theorem dX4_walkBestOrder_76 : decode cX4_walkBestOrder 76 = .ok (.getfield 22, 3) := by decide +kernel
theorem dX4_walkBestOrder_79 : decode cX4_walkBestOrder 79 = .ok (.iload 6, 2) := by decide +kernel
theorem dX4_walkBestOrder_81 : decode cX4_walkBestOrder 81 = .ok (.iaload, 1) := by decide +kernel
theorem dX4_walkBestOrder_82 : decode cX4_walkBestOrder 82 = .ok (.isub, 1) := by decide +kernel
theorem dX4_walkBestOrder_83 : decode cX4_walkBestOrder 83 = .ok (.istore_n 3, 1) := by decide +kernel
theorem dX4_walkBestOrder_84 : decode cX4_walkBestOrder 84 = .ok (.aload_n 0, 1) := by decide +kernel
theorem dX4_walkBestOrder_85 : decode cX4_walkBestOrder 85 = .ok (.iload 6, 2) := by decide +kernel
theorem dX4_walkBestOrder_87 : decode cX4_walkBestOrder 87 = .ok (.putfield 15, 3) := by decide +kernel
theorem dX4_walkBestOrder_90 : decode cX4_walkBestOrder 90 = .ok (.iinc 4 1, 3) := by decide +kernel
theorem dX4_walkBestOrder_93 : decode cX4_walkBestOrder 93 = .ok (.goto (-86), 3) := by decide +kernel
theorem dX4_walkBestOrder_96 : decode cX4_walkBestOrder 96 = .ok (.iload_n 2, 1) := by decide +kernel
theorem dX4_walkBestOrder_97 : decode cX4_walkBestOrder 97 = .ok (.ireturn, 1) := by decide +kernel
theorem dX4_clearJobs_0 : decode cX4_clearJobs 0 = .ok (.aload_n 0, 1) := by decide +kernel
theorem dX4_clearJobs_1 : decode cX4_clearJobs 1 = .ok (.iconst 0, 1) := by decide +kernel
theorem dX4_clearJobs_2 : decode cX4_clearJobs 2 = .ok (.putfield 31, 3) := by decide +kernel
theorem dX4_clearJobs_5 : decode cX4_clearJobs 5 = .ok (.iconst 0, 1) := by decide +kernel
theorem dX4_clearJobs_6 : decode cX4_clearJobs 6 = .ok (.istore_n 1, 1) := by decide +kernel
theorem dX4_clearJobs_7 : decode cX4_clearJobs 7 = .ok (.iload_n 1, 1) := by decide +kernel
theorem dX4_clearJobs_8 : decode cX4_clearJobs 8 = .ok (.bipush 6, 2) := by decide +kernel
theorem dX4_clearJobs_10 : decode cX4_clearJobs 10 = .ok (.if_icmp .ge 16, 3) := by decide +kernel
theorem dX4_clearJobs_13 : decode cX4_clearJobs 13 = .ok (.aload_n 0, 1) := by decide +kernel
theorem dX4_clearJobs_14 : decode cX4_clearJobs 14 = .ok (.getfield 19, 3) := by decide +kernel
theorem dX4_clearJobs_17 : decode cX4_clearJobs 17 = .ok (.iload_n 1, 1) := by decide +kernel
theorem dX4_clearJobs_18 : decode cX4_clearJobs 18 = .ok (.iconst 0, 1) := by decide +kernel
theorem dX4_clearJobs_19 : decode cX4_clearJobs 19 = .ok (.iastore, 1) := by decide +kernel
theorem dX4_clearJobs_20 : decode cX4_clearJobs 20 = .ok (.iinc 1 1, 3) := by decide +kernel
theorem dX4_clearJobs_23 : decode cX4_clearJobs 23 = .ok (.goto (-16), 3) := by decide +kernel
theorem dX4_clearJobs_26 : decode cX4_clearJobs 26 = .ok (.return_, 1) := by decide +kernel
theorem dX5_init_0 : decode cX5_init 0 = .ok (.aload_n 0, 1) := by decide +kernel
theorem dX5_init_1 : decode cX5_init 1 = .ok (.invokespecial 3, 3) := by decide +kernel
theorem dX5_init_4 : decode cX5_init 4 = .ok (.aload_n 0, 1) := by decide +kernel
theorem dX5_init_5 : decode cX5_init 5 = .ok (.bipush 100, 2) := by decide +kernel
theorem dX5_init_7 : decode cX5_init 7 = .ok (.newarray .int, 2) := by decide +kernel
theorem dX5_init_9 : decode cX5_init 9 = .ok (.putfield 9, 3) := by decide +kernel
theorem dX5_init_12 : decode cX5_init 12 = .ok (.aload_n 0, 1) := by decide +kernel
theorem dX5_init_13 : decode cX5_init 13 = .ok (.bipush 100, 2) := by decide +kernel
theorem dX5_init_15 : decode cX5_init 15 = .ok (.newarray .boolean, 2) := by decide +kernel
theorem dX5_init_17 : decode cX5_init 17 = .ok (.putfield 15, 3) := by decide +kernel
theorem dX5_init_20 : decode cX5_init 20 = .ok (.aload_n 0, 1) := by decide +kernel
theorem dX5_init_21 : decode cX5_init 21 = .ok (.bipush 100, 2) := by decide +kernel
theorem dX5_init_23 : decode cX5_init 23 = .ok (.newarray .int, 2) := by decide +kernel
theorem dX5_init_25 : decode cX5_init 25 = .ok (.putfield 19, 3) := by decide +kernel
theorem dX5_init_28 : decode cX5_init 28 = .ok (.aload_n 0, 1) := by decide +kernel
theorem dX5_init_29 : decode cX5_init 29 = .ok (.bipush 100, 2) := by decide +kernel
theorem dX5_init_31 : decode cX5_init 31 = .ok (.newarray .int, 2) := by decide +kernel
theorem dX5_init_33 : decode cX5_init 33 = .ok (.putfield 22, 3) := by decide +kernel
theorem dX5_init_36 : decode cX5_init 36 = .ok (.return_, 1) := by decide +kernel
theorem dX5_add_0 : decode cX5_add 0 = .ok (.aload_n 0, 1) := by decide +kernel
theorem dX5_add_1 : decode cX5_add 1 = .ok (.getfield 25, 3) := by decide +kernel
theorem dX5_add_4 : decode cX5_add 4 = .ok (.istore_n 3, 1) := by decide +kernel
theorem dX5_add_5 : decode cX5_add 5 = .ok (.aload_n 0, 1) := by decide +kernel
theorem dX5_add_6 : decode cX5_add 6 = .ok (.getfield 9, 3) := by decide +kernel
theorem dX5_add_9 : decode cX5_add 9 = .ok (.iload_n 3, 1) := by decide +kernel
theorem dX5_add_10 : decode cX5_add 10 = .ok (.iload_n 1, 1) := by decide +kernel
theorem dX5_add_11 : decode cX5_add 11 = .ok (.iastore, 1) := by decide +kernel
theorem dX5_add_12 : decode cX5_add 12 = .ok (.aload_n 0, 1) := by decide +kernel
theorem dX5_add_13 : decode cX5_add 13 = .ok (.getfield 15, 3) := by decide +kernel
theorem dX5_add_16 : decode cX5_add 16 = .ok (.iload_n 3, 1) := by decide +kernel
theorem dX5_add_17 : decode cX5_add 17 = .ok (.iload_n 2, 1) := by decide +kernel
theorem dX5_add_18 : decode cX5_add 18 = .ok (.bastore, 1) := by decide +kernel
theorem dX5_add_19 : decode cX5_add 19 = .ok (.aload_n 0, 1) := by decide +kernel
theorem dX5_add_20 : decode cX5_add 20 = .ok (.getfield 19, 3) := by decide +kernel
theorem dX5_add_23 : decode cX5_add 23 = .ok (.iload_n 3, 1) := by decide +kernel
theorem dX5_add_24 : decode cX5_add 24 = .ok (.aload_n 0, 1) := by decide +kernel
theorem dX5_add_25 : decode cX5_add 25 = .ok (.getfield 29, 3) := by decide +kernel
theorem dX5_add_28 : decode cX5_add 28 = .ok (.iastore, 1) := by decide +kernel
theorem dX5_add_29 : decode cX5_add 29 = .ok (.aload_n 0, 1) := by decide +kernel
theorem dX5_add_30 : decode cX5_add 30 = .ok (.getfield 22, 3) := by decide +kernel
theorem dX5_add_33 : decode cX5_add 33 = .ok (.iload_n 3, 1) := by decide +kernel
theorem dX5_add_34 : decode cX5_add 34 = .ok (.iconst (-1), 1) := by decide +kernel
theorem dX5_add_35 : decode cX5_add 35 = .ok (.iastore, 1) := by decide +kernel
theorem dX5_add_36 : decode cX5_add 36 = .ok (.aload_n 0, 1) := by decide +kernel
theorem dX5_add_37 : decode cX5_add 37 = .ok (.dup, 1) := by decide +kernel
theorem dX5_add_38 : decode cX5_add 38 = .ok (.getfield 25, 3) := by decide +kernel
theorem dX5_add_41 : decode cX5_add 41 = .ok (.iconst 1, 1) := by decide +kernel
theorem dX5_add_42 : decode cX5_add 42 = .ok (.iadd, 1) := by decide +kernel
theorem dX5_add_43 : decode cX5_add 43 = .ok (.putfield 25, 3) := by decide +kernel
theorem dX5_add_46 : decode cX5_add 46 = .ok (.iload_n 3, 1) := by decide +kernel
theorem dX5_add_47 : decode cX5_add 47 = .ok (.ireturn, 1) := by decide +kernel
theorem dX5_takeBack_0 : decode cX5_takeBack 0 = .ok (.aload_n 0, 1) := by decide +kernel
theorem dX5_takeBack_1 : decode cX5_takeBack 1 = .ok (.getfield 22, 3) := by decide +kernel
theorem dX5_takeBack_4 : decode cX5_takeBack 4 = .ok (.iload_n 1, 1) := by decide +kernel
theorem dX5_takeBack_5 : decode cX5_takeBack 5 = .ok (.iaload, 1) := by decide +kernel
theorem dX5_takeBack_6 : decode cX5_takeBack 6 = .ok (.iconst (-1), 1) := by decide +kernel
theorem dX5_takeBack_7 : decode cX5_takeBack 7 = .ok (.if_icmp .eq 5, 3) := by decide +kernel
theorem dX5_takeBack_10 : decode cX5_takeBack 10 = .ok (.iconst 0, 1) := by decide +kernel
theorem dX5_takeBack_11 : decode cX5_takeBack 11 = .ok (.ireturn, 1) := by decide +kernel
theorem dX5_takeBack_12 : decode cX5_takeBack 12 = .ok (.aload_n 0, 1) := by decide +kernel
theorem dX5_takeBack_13 : decode cX5_takeBack 13 = .ok (.getfield 22, 3) := by decide +kernel
theorem dX5_takeBack_16 : decode cX5_takeBack 16 = .ok (.iload_n 1, 1) := by decide +kernel
theorem dX5_takeBack_17 : decode cX5_takeBack 17 = .ok (.aload_n 0, 1) := by decide +kernel
theorem dX5_takeBack_18 : decode cX5_takeBack 18 = .ok (.getfield 29, 3) := by decide +kernel
theorem dX5_takeBack_21 : decode cX5_takeBack 21 = .ok (.iastore, 1) := by decide +kernel
theorem dX5_takeBack_22 : decode cX5_takeBack 22 = .ok (.iconst 1, 1) := by decide +kernel
theorem dX5_takeBack_23 : decode cX5_takeBack 23 = .ok (.ireturn, 1) := by decide +kernel
set_option maxRecDepth 20000 in
theorem ggX5_batchesThat_X5_isKnown : GoodIn wsX5_batchesThat wsX5_isKnown := goodIn_r _ [8, 9, 10, 11, 12, 13, 14, 15, 16] (by decide +kernel) (by decide +kernel)
set_option maxRecDepth 20000 in
theorem gX5_batchesThat_X5_isKnown : GoodIn wsX5_batchesThat (wsV RX5 32 RX5 yX5_isKnown wsX5_isKnown) := goodIn_app (goodIn_of _ (by decide +kernel)) ggX5_batchesThat_X5_isKnown
theorem dX5_batchesThat_0 : decode cX5_batchesThat 0 = .ok (.lconst 0, 1) := by decide +kernel
theorem dX5_batchesThat_1 : decode cX5_batchesThat 1 = .ok (.lstore_n 3, 1) := by decide +kernel
theorem dX5_batchesThat_2 : decode cX5_batchesThat 2 = .ok (.iconst 0, 1) := by decide +kernel
theorem dX5_batchesThat_3 : decode cX5_batchesThat 3 = .ok (.istore 5, 2) := by decide +kernel
theorem dX5_batchesThat_5 : decode cX5_batchesThat 5 = .ok (.iload 5, 2) := by decide +kernel
theorem dX5_batchesThat_7 : decode cX5_batchesThat 7 = .ok (.aload_n 0, 1) := by decide +kernel
theorem dX5_batchesThat_8 : decode cX5_batchesThat 8 = .ok (.getfield 25, 3) := by decide +kernel
theorem dX5_batchesThat_11 : decode cX5_batchesThat 11 = .ok (.if_icmp .ge 42, 3) := by decide +kernel
theorem dX5_batchesThat_14 : decode cX5_batchesThat 14 = .ok (.aload_n 0, 1) := by decide +kernel
theorem dX5_batchesThat_15 : decode cX5_batchesThat 15 = .ok (.getfield 15, 3) := by decide +kernel
theorem dX5_batchesThat_18 : decode cX5_batchesThat 18 = .ok (.iload 5, 2) := by decide +kernel
theorem dX5_batchesThat_20 : decode cX5_batchesThat 20 = .ok (.baload, 1) := by decide +kernel
theorem dX5_batchesThat_21 : decode cX5_batchesThat 21 = .ok (.iload_n 1, 1) := by decide +kernel
theorem dX5_batchesThat_22 : decode cX5_batchesThat 22 = .ok (.if_icmp .ne 25, 3) := by decide +kernel
theorem dX5_batchesThat_25 : decode cX5_batchesThat 25 = .ok (.aload_n 0, 1) := by decide +kernel
theorem dX5_batchesThat_26 : decode cX5_batchesThat 26 = .ok (.iload 5, 2) := by decide +kernel
theorem dX5_batchesThat_28 : decode cX5_batchesThat 28 = .ok (.iload_n 2, 1) := by decide +kernel
theorem dX5_batchesThat_29 : decode cX5_batchesThat 29 = .ok (.invokevirtual 32, 3) := by decide +kernel
theorem dX5_batchesThat_32 : decode cX5_batchesThat 32 = .ok (.ifCond .eq 15, 3) := by decide +kernel
theorem dX5_batchesThat_35 : decode cX5_batchesThat 35 = .ok (.lload_n 3, 1) := by decide +kernel
theorem dX5_batchesThat_36 : decode cX5_batchesThat 36 = .ok (.lconst 1, 1) := by decide +kernel
theorem dX5_batchesThat_37 : decode cX5_batchesThat 37 = .ok (.aload_n 0, 1) := by decide +kernel
theorem dX5_batchesThat_38 : decode cX5_batchesThat 38 = .ok (.getfield 9, 3) := by decide +kernel
theorem dX5_batchesThat_41 : decode cX5_batchesThat 41 = .ok (.iload 5, 2) := by decide +kernel
theorem dX5_batchesThat_43 : decode cX5_batchesThat 43 = .ok (.iaload, 1) := by decide +kernel
theorem dX5_batchesThat_44 : decode cX5_batchesThat 44 = .ok (.lshl, 1) := by decide +kernel
theorem dX5_batchesThat_45 : decode cX5_batchesThat 45 = .ok (.lor, 1) := by decide +kernel
theorem dX5_batchesThat_46 : decode cX5_batchesThat 46 = .ok (.lstore_n 3, 1) := by decide +kernel
theorem dX5_batchesThat_47 : decode cX5_batchesThat 47 = .ok (.iinc 5 1, 3) := by decide +kernel
theorem dX5_batchesThat_50 : decode cX5_batchesThat 50 = .ok (.goto (-45), 3) := by decide +kernel
theorem dX5_batchesThat_53 : decode cX5_batchesThat 53 = .ok (.lload_n 3, 1) := by decide +kernel
theorem dX5_batchesThat_54 : decode cX5_batchesThat 54 = .ok (.lreturn, 1) := by decide +kernel
theorem dX5_isKnown_0 : decode cX5_isKnown 0 = .ok (.aload_n 0, 1) := by decide +kernel
theorem dX5_isKnown_1 : decode cX5_isKnown 1 = .ok (.getfield 19, 3) := by decide +kernel
theorem dX5_isKnown_4 : decode cX5_isKnown 4 = .ok (.iload_n 1, 1) := by decide +kernel
theorem dX5_isKnown_5 : decode cX5_isKnown 5 = .ok (.iaload, 1) := by decide +kernel
theorem dX5_isKnown_6 : decode cX5_isKnown 6 = .ok (.iload_n 2, 1) := by decide +kernel
theorem dX5_isKnown_7 : decode cX5_isKnown 7 = .ok (.if_icmp .gt 27, 3) := by decide +kernel
theorem dX5_isKnown_10 : decode cX5_isKnown 10 = .ok (.aload_n 0, 1) := by decide +kernel
theorem dX5_isKnown_11 : decode cX5_isKnown 11 = .ok (.getfield 22, 3) := by decide +kernel
theorem dX5_isKnown_14 : decode cX5_isKnown 14 = .ok (.iload_n 1, 1) := by decide +kernel
theorem dX5_isKnown_15 : decode cX5_isKnown 15 = .ok (.iaload, 1) := by decide +kernel
theorem dX5_isKnown_16 : decode cX5_isKnown 16 = .ok (.iconst (-1), 1) := by decide +kernel
theorem dX5_isKnown_17 : decode cX5_isKnown 17 = .ok (.if_icmp .eq 13, 3) := by decide +kernel
theorem dX5_isKnown_20 : decode cX5_isKnown 20 = .ok (.iload_n 2, 1) := by decide +kernel
theorem dX5_isKnown_21 : decode cX5_isKnown 21 = .ok (.aload_n 0, 1) := by decide +kernel
theorem dX5_isKnown_22 : decode cX5_isKnown 22 = .ok (.getfield 22, 3) := by decide +kernel
theorem dX5_isKnown_25 : decode cX5_isKnown 25 = .ok (.iload_n 1, 1) := by decide +kernel
theorem dX5_isKnown_26 : decode cX5_isKnown 26 = .ok (.iaload, 1) := by decide +kernel
theorem dX5_isKnown_27 : decode cX5_isKnown 27 = .ok (.if_icmp .ge 7, 3) := by decide +kernel
theorem dX5_isKnown_30 : decode cX5_isKnown 30 = .ok (.iconst 1, 1) := by decide +kernel
theorem dX5_isKnown_31 : decode cX5_isKnown 31 = .ok (.goto 4, 3) := by decide +kernel
theorem dX5_isKnown_34 : decode cX5_isKnown 34 = .ok (.iconst 0, 1) := by decide +kernel
theorem dX5_isKnown_35 : decode cX5_isKnown 35 = .ok (.ireturn, 1) := by decide +kernel
end
section
theorem dX7_init_0 : decode cX7_init 0 = .ok (.aload_n 0, 1) := by decide +kernel
theorem dX7_init_1 : decode cX7_init 1 = .ok (.invokespecial 1, 3) := by decide +kernel
theorem dX7_init_4 : decode cX7_init 4 = .ok (.aload_n 0, 1) := by decide +kernel
theorem dX7_init_5 : decode cX7_init 5 = .ok (.bipush 6, 2) := by decide +kernel
theorem dX7_init_7 : decode cX7_init 7 = .ok (.newarray .int, 2) := by decide +kernel
theorem dX7_init_9 : decode cX7_init 9 = .ok (.putfield 9, 3) := by decide +kernel
theorem dX7_init_12 : decode cX7_init 12 = .ok (.aload_n 0, 1) := by decide +kernel
theorem dX7_init_13 : decode cX7_init 13 = .ok (.bipush 6, 2) := by decide +kernel
theorem dX7_init_15 : decode cX7_init 15 = .ok (.newarray .int, 2) := by decide +kernel
theorem dX7_init_17 : decode cX7_init 17 = .ok (.putfield 13, 3) := by decide +kernel
theorem dX7_init_20 : decode cX7_init 20 = .ok (.aload_n 0, 1) := by decide +kernel
theorem dX7_init_21 : decode cX7_init 21 = .ok (.bipush 6, 2) := by decide +kernel
theorem dX7_init_23 : decode cX7_init 23 = .ok (.newarray .int, 2) := by decide +kernel
theorem dX7_init_25 : decode cX7_init 25 = .ok (.putfield 16, 3) := by decide +kernel
theorem dX7_init_28 : decode cX7_init 28 = .ok (.aload_n 0, 1) := by decide +kernel
theorem dX7_init_29 : decode cX7_init 29 = .ok (.bipush 6, 2) := by decide +kernel
theorem dX7_init_31 : decode cX7_init 31 = .ok (.newarray .int, 2) := by decide +kernel
theorem dX7_init_33 : decode cX7_init 33 = .ok (.putfield 19, 3) := by decide +kernel
theorem dX7_init_36 : decode cX7_init 36 = .ok (.aload_n 0, 1) := by decide +kernel
theorem dX7_init_37 : decode cX7_init 37 = .ok (.bipush 6, 2) := by decide +kernel
theorem dX7_init_39 : decode cX7_init 39 = .ok (.newarray .int, 2) := by decide +kernel
theorem dX7_init_41 : decode cX7_init 41 = .ok (.putfield 22, 3) := by decide +kernel
theorem dX7_init_44 : decode cX7_init 44 = .ok (.aload_n 0, 1) := by decide +kernel
theorem dX7_init_45 : decode cX7_init 45 = .ok (.bipush 6, 2) := by decide +kernel
theorem dX7_init_47 : decode cX7_init 47 = .ok (.newarray .int, 2) := by decide +kernel
theorem dX7_init_49 : decode cX7_init 49 = .ok (.putfield 25, 3) := by decide +kernel
theorem dX7_init_52 : decode cX7_init 52 = .ok (.aload_n 0, 1) := by decide +kernel
theorem dX7_init_53 : decode cX7_init 53 = .ok (.bipush 12, 2) := by decide +kernel
theorem dX7_init_55 : decode cX7_init 55 = .ok (.newarray .int, 2) := by decide +kernel
theorem dX7_init_57 : decode cX7_init 57 = .ok (.putfield 28, 3) := by decide +kernel
theorem dX7_init_60 : decode cX7_init 60 = .ok (.aload_n 0, 1) := by decide +kernel
theorem dX7_init_61 : decode cX7_init 61 = .ok (.bipush 12, 2) := by decide +kernel
theorem dX7_init_63 : decode cX7_init 63 = .ok (.newarray .int, 2) := by decide +kernel
theorem dX7_init_65 : decode cX7_init 65 = .ok (.putfield 31, 3) := by decide +kernel
theorem dX7_init_68 : decode cX7_init 68 = .ok (.aload_n 0, 1) := by decide +kernel
theorem dX7_init_69 : decode cX7_init 69 = .ok (.bipush 12, 2) := by decide +kernel
theorem dX7_init_71 : decode cX7_init 71 = .ok (.newarray .int, 2) := by decide +kernel
theorem dX7_init_73 : decode cX7_init 73 = .ok (.putfield 34, 3) := by decide +kernel
theorem dX7_init_76 : decode cX7_init 76 = .ok (.aload_n 0, 1) := by decide +kernel
theorem dX7_init_77 : decode cX7_init 77 = .ok (.bipush 12, 2) := by decide +kernel
theorem dX7_init_79 : decode cX7_init 79 = .ok (.newarray .int, 2) := by decide +kernel
theorem dX7_init_81 : decode cX7_init 81 = .ok (.putfield 37, 3) := by decide +kernel
theorem dX7_init_84 : decode cX7_init 84 = .ok (.aload_n 0, 1) := by decide +kernel
theorem dX7_init_85 : decode cX7_init 85 = .ok (.bipush 12, 2) := by decide +kernel
theorem dX7_init_87 : decode cX7_init 87 = .ok (.newarray .int, 2) := by decide +kernel
theorem dX7_init_89 : decode cX7_init 89 = .ok (.putfield 40, 3) := by decide +kernel
theorem dX7_init_92 : decode cX7_init 92 = .ok (.aload_n 0, 1) := by decide +kernel
theorem dX7_init_93 : decode cX7_init 93 = .ok (.bipush 60, 2) := by decide +kernel
theorem dX7_init_95 : decode cX7_init 95 = .ok (.newarray .int, 2) := by decide +kernel
theorem dX7_init_97 : decode cX7_init 97 = .ok (.putfield 43, 3) := by decide +kernel
theorem dX7_init_100 : decode cX7_init 100 = .ok (.aload_n 0, 1) := by decide +kernel
theorem dX7_init_101 : decode cX7_init 101 = .ok (.bipush 100, 2) := by decide +kernel
theorem dX7_init_103 : decode cX7_init 103 = .ok (.newarray .int, 2) := by decide +kernel
theorem dX7_init_105 : decode cX7_init 105 = .ok (.putfield 46, 3) := by decide +kernel
theorem dX7_init_108 : decode cX7_init 108 = .ok (.aload_n 0, 1) := by decide +kernel
theorem dX7_init_109 : decode cX7_init 109 = .ok (.bipush 100, 2) := by decide +kernel
theorem dX7_init_111 : decode cX7_init 111 = .ok (.newarray .boolean, 2) := by decide +kernel
theorem dX7_init_113 : decode cX7_init 113 = .ok (.putfield 49, 3) := by decide +kernel
theorem dX7_init_116 : decode cX7_init 116 = .ok (.aload_n 0, 1) := by decide +kernel
theorem dX7_init_117 : decode cX7_init 117 = .ok (.bipush 100, 2) := by decide +kernel
theorem dX7_init_119 : decode cX7_init 119 = .ok (.newarray .int, 2) := by decide +kernel
theorem dX7_init_121 : decode cX7_init 121 = .ok (.putfield 53, 3) := by decide +kernel
theorem dX7_init_124 : decode cX7_init 124 = .ok (.aload_n 0, 1) := by decide +kernel
theorem dX7_init_125 : decode cX7_init 125 = .ok (.bipush 100, 2) := by decide +kernel
theorem dX7_init_127 : decode cX7_init 127 = .ok (.newarray .int, 2) := by decide +kernel
theorem dX7_init_129 : decode cX7_init 129 = .ok (.putfield 56, 3) := by decide +kernel
theorem dX7_init_132 : decode cX7_init 132 = .ok (.aload_n 0, 1) := by decide +kernel
theorem dX7_init_133 : decode cX7_init 133 = .ok (.bipush 60, 2) := by decide +kernel
theorem dX7_init_135 : decode cX7_init 135 = .ok (.newarray .boolean, 2) := by decide +kernel
theorem dX7_init_137 : decode cX7_init 137 = .ok (.putfield 59, 3) := by decide +kernel
theorem dX7_init_140 : decode cX7_init 140 = .ok (.aload_n 0, 1) := by decide +kernel
theorem dX7_init_141 : decode cX7_init 141 = .ok (.bipush 10, 2) := by decide +kernel
theorem dX7_init_143 : decode cX7_init 143 = .ok (.newarray .int, 2) := by decide +kernel
theorem dX7_init_145 : decode cX7_init 145 = .ok (.putfield 62, 3) := by decide +kernel
theorem dX7_init_148 : decode cX7_init 148 = .ok (.aload_n 0, 1) := by decide +kernel
theorem dX7_init_149 : decode cX7_init 149 = .ok (.bipush 6, 2) := by decide +kernel
theorem dX7_init_151 : decode cX7_init 151 = .ok (.newarray .int, 2) := by decide +kernel
theorem dX7_init_153 : decode cX7_init 153 = .ok (.putfield 65, 3) := by decide +kernel
theorem dX7_init_156 : decode cX7_init 156 = .ok (.aload_n 0, 1) := by decide +kernel
theorem dX7_init_157 : decode cX7_init 157 = .ok (.bipush 6, 2) := by decide +kernel
theorem dX7_init_159 : decode cX7_init 159 = .ok (.newarray .int, 2) := by decide +kernel
theorem dX7_init_161 : decode cX7_init 161 = .ok (.putfield 68, 3) := by decide +kernel
theorem dX7_init_164 : decode cX7_init 164 = .ok (.aload_n 0, 1) := by decide +kernel
theorem dX7_init_165 : decode cX7_init 165 = .ok (.bipush 6, 2) := by decide +kernel
theorem dX7_init_167 : decode cX7_init 167 = .ok (.newarray .int, 2) := by decide +kernel
theorem dX7_init_169 : decode cX7_init 169 = .ok (.putfield 71, 3) := by decide +kernel
theorem dX7_init_172 : decode cX7_init 172 = .ok (.aload_n 0, 1) := by decide +kernel
theorem dX7_init_173 : decode cX7_init 173 = .ok (.bipush 10, 2) := by decide +kernel
theorem dX7_init_175 : decode cX7_init 175 = .ok (.newarray .int, 2) := by decide +kernel
theorem dX7_init_177 : decode cX7_init 177 = .ok (.putfield 74, 3) := by decide +kernel
theorem dX7_init_180 : decode cX7_init 180 = .ok (.aload_n 0, 1) := by decide +kernel
theorem dX7_init_181 : decode cX7_init 181 = .ok (.bipush 6, 2) := by decide +kernel
theorem dX7_init_183 : decode cX7_init 183 = .ok (.newarray .boolean, 2) := by decide +kernel
theorem dX7_init_185 : decode cX7_init 185 = .ok (.putfield 77, 3) := by decide +kernel
theorem dX7_init_188 : decode cX7_init 188 = .ok (.aload_n 0, 1) := by decide +kernel
theorem dX7_init_189 : decode cX7_init 189 = .ok (.bipush 36, 2) := by decide +kernel
theorem dX7_init_191 : decode cX7_init 191 = .ok (.newarray .int, 2) := by decide +kernel
theorem dX7_init_193 : decode cX7_init 193 = .ok (.putfield 80, 3) := by decide +kernel
theorem dX7_init_196 : decode cX7_init 196 = .ok (.aload_n 0, 1) := by decide +kernel
theorem dX7_init_197 : decode cX7_init 197 = .ok (.bipush 10, 2) := by decide +kernel
theorem dX7_init_199 : decode cX7_init 199 = .ok (.newarray .int, 2) := by decide +kernel
theorem dX7_init_201 : decode cX7_init 201 = .ok (.putfield 83, 3) := by decide +kernel
theorem dX7_init_204 : decode cX7_init 204 = .ok (.aload_n 0, 1) := by decide +kernel
theorem dX7_init_205 : decode cX7_init 205 = .ok (.iconst (-1), 1) := by decide +kernel
theorem dX7_init_206 : decode cX7_init 206 = .ok (.putfield 86, 3) := by decide +kernel
theorem dX7_init_209 : decode cX7_init 209 = .ok (.aload_n 0, 1) := by decide +kernel
theorem dX7_init_210 : decode cX7_init 210 = .ok (.sipush 7168, 3) := by decide +kernel
theorem dX7_init_213 : decode cX7_init 213 = .ok (.newarray .int, 2) := by decide +kernel
theorem dX7_init_215 : decode cX7_init 215 = .ok (.putfield 90, 3) := by decide +kernel
theorem dX7_init_218 : decode cX7_init 218 = .ok (.return_, 1) := by decide +kernel
theorem dX7_thrown_0 : decode cX7_thrown 0 = .ok (.aload_n 0, 1) := by decide +kernel
theorem dX7_thrown_1 : decode cX7_thrown 1 = .ok (.getfield 93, 3) := by decide +kernel
theorem dX7_thrown_4 : decode cX7_thrown 4 = .ok (.ireturn, 1) := by decide +kernel
theorem dX7_throwsIf_0 : decode cX7_throwsIf 0 = .ok (.iload_n 1, 1) := by decide +kernel
theorem dX7_throwsIf_1 : decode cX7_throwsIf 1 = .ok (.ifCond .eq 8, 3) := by decide +kernel
theorem dX7_throwsIf_4 : decode cX7_throwsIf 4 = .ok (.aload_n 0, 1) := by decide +kernel
theorem dX7_throwsIf_5 : decode cX7_throwsIf 5 = .ok (.iload_n 2, 1) := by decide +kernel
theorem dX7_throwsIf_6 : decode cX7_throwsIf 6 = .ok (.putfield 93, 3) := by decide +kernel
theorem dX7_throwsIf_9 : decode cX7_throwsIf 9 = .ok (.iload_n 1, 1) := by decide +kernel
theorem dX7_throwsIf_10 : decode cX7_throwsIf 10 = .ok (.ireturn, 1) := by decide +kernel
theorem dX7_in_0 : decode cX7_in 0 = .ok (.iload_n 0, 1) := by decide +kernel
theorem dX7_in_1 : decode cX7_in 1 = .ok (.iload_n 1, 1) := by decide +kernel
theorem dX7_in_2 : decode cX7_in 2 = .ok (.if_icmp .lt 12, 3) := by decide +kernel
theorem dX7_in_5 : decode cX7_in 5 = .ok (.iload_n 0, 1) := by decide +kernel
theorem dX7_in_6 : decode cX7_in 6 = .ok (.iload_n 2, 1) := by decide +kernel
theorem dX7_in_7 : decode cX7_in 7 = .ok (.if_icmp .gt 7, 3) := by decide +kernel
theorem dX7_in_10 : decode cX7_in 10 = .ok (.iconst 1, 1) := by decide +kernel
theorem dX7_in_11 : decode cX7_in 11 = .ok (.goto 4, 3) := by decide +kernel
theorem dX7_in_14 : decode cX7_in 14 = .ok (.iconst 0, 1) := by decide +kernel
theorem dX7_in_15 : decode cX7_in 15 = .ok (.ireturn, 1) := by decide +kernel
set_option maxRecDepth 20000 in
theorem ggX7_earth_X7_in : GoodIn wsX7_earth wsX7_in := goodIn_r _ [10] (by decide +kernel) (by decide +kernel)
set_option maxRecDepth 20000 in
theorem gX7_earth_X7_in : GoodIn wsX7_earth (va_wsS RX7 96 yX7_in wsX7_in) := goodIn_app (goodIn_of _ (by decide +kernel)) ggX7_earth_X7_in
set_option maxRecDepth 20000 in
theorem ggX7_earth_X7_throwsIf : GoodIn wsX7_earth wsX7_throwsIf := goodIn_r _ [14, 1, 15, 16, 17, 18, 19, 20, 21, 22, 23, 24, 25, 26, 27, 28, 29, 30, 31, 32, 33, 34, 35, 36, 37, 38, 39, 40, 41, 42, 43, 44, 45, 46, 47, 48, 49, 50, 51, 52, 53, 54, 55, 56] (by decide +kernel) (by decide +kernel)
set_option maxRecDepth 20000 in
theorem gX7_earth_X7_throwsIf : GoodIn wsX7_earth (wsV RX7 100 RX7 yX7_throwsIf wsX7_throwsIf) := goodIn_app (goodIn_of _ (by decide +kernel)) ggX7_earth_X7_throwsIf
theorem dX7_earth_0 : decode cX7_earth 0 = .ok (.aload_n 0, 1) := by decide +kernel
theorem dX7_earth_1 : decode cX7_earth 1 = .ok (.iconst 0, 1) := by decide +kernel
theorem dX7_earth_2 : decode cX7_earth 2 = .ok (.putfield 93, 3) := by decide +kernel
theorem dX7_earth_5 : decode cX7_earth 5 = .ok (.aload_n 0, 1) := by decide +kernel
theorem dX7_earth_6 : decode cX7_earth 6 = .ok (.iload_n 1, 1) := by decide +kernel
theorem dX7_earth_7 : decode cX7_earth 7 = .ok (.ifCond .lt 38, 3) := by decide +kernel
theorem dX7_earth_10 : decode cX7_earth 10 = .ok (.iload_n 2, 1) := by decide +kernel
theorem dX7_earth_11 : decode cX7_earth 11 = .ok (.iload_n 1, 1) := by decide +kernel
theorem dX7_earth_12 : decode cX7_earth 12 = .ok (.if_icmp .lt 33, 3) := by decide +kernel
theorem dX7_earth_15 : decode cX7_earth 15 = .ok (.iload_n 2, 1) := by decide +kernel
theorem dX7_earth_16 : decode cX7_earth 16 = .ok (.sipush 1000, 3) := by decide +kernel
theorem dX7_earth_19 : decode cX7_earth 19 = .ok (.if_icmp .gt 26, 3) := by decide +kernel
theorem dX7_earth_22 : decode cX7_earth 22 = .ok (.iload_n 3, 1) := by decide +kernel
theorem dX7_earth_23 : decode cX7_earth 23 = .ok (.iconst 1, 1) := by decide +kernel
theorem dX7_earth_24 : decode cX7_earth 24 = .ok (.sipush 1000, 3) := by decide +kernel
theorem dX7_earth_27 : decode cX7_earth 27 = .ok (.invokestatic 96, 3) := by decide +kernel
theorem dX7_earth_30 : decode cX7_earth 30 = .ok (.ifCond .eq 15, 3) := by decide +kernel
theorem dX7_earth_33 : decode cX7_earth 33 = .ok (.iload 4, 2) := by decide +kernel
theorem dX7_earth_35 : decode cX7_earth 35 = .ok (.iconst 0, 1) := by decide +kernel
theorem dX7_earth_36 : decode cX7_earth 36 = .ok (.sipush 1000, 3) := by decide +kernel
theorem dX7_earth_39 : decode cX7_earth 39 = .ok (.invokestatic 96, 3) := by decide +kernel
theorem dX7_earth_42 : decode cX7_earth 42 = .ok (.ifCond .ne 7, 3) := by decide +kernel
theorem dX7_earth_45 : decode cX7_earth 45 = .ok (.iconst 1, 1) := by decide +kernel
theorem dX7_earth_46 : decode cX7_earth 46 = .ok (.goto 4, 3) := by decide +kernel
theorem dX7_earth_49 : decode cX7_earth 49 = .ok (.iconst 0, 1) := by decide +kernel
theorem dX7_earth_50 : decode cX7_earth 50 = .ok (.iconst 1, 1) := by decide +kernel
theorem dX7_earth_51 : decode cX7_earth 51 = .ok (.invokevirtual 100, 3) := by decide +kernel
theorem dX7_earth_54 : decode cX7_earth 54 = .ok (.ifCond .ne 25, 3) := by decide +kernel
theorem dX7_earth_57 : decode cX7_earth 57 = .ok (.aload_n 0, 1) := by decide +kernel
theorem dX7_earth_58 : decode cX7_earth 58 = .ok (.aload_n 0, 1) := by decide +kernel
theorem dX7_earth_59 : decode cX7_earth 59 = .ok (.getfield 104, 3) := by decide +kernel
theorem dX7_earth_62 : decode cX7_earth 62 = .ok (.bipush 6, 2) := by decide +kernel
theorem dX7_earth_64 : decode cX7_earth 64 = .ok (.if_icmp .ne 7, 3) := by decide +kernel
theorem dX7_earth_67 : decode cX7_earth 67 = .ok (.iconst 1, 1) := by decide +kernel
theorem dX7_earth_68 : decode cX7_earth 68 = .ok (.goto 4, 3) := by decide +kernel
theorem dX7_earth_71 : decode cX7_earth 71 = .ok (.iconst 0, 1) := by decide +kernel
theorem dX7_earth_72 : decode cX7_earth 72 = .ok (.iconst 2, 1) := by decide +kernel
theorem dX7_earth_73 : decode cX7_earth 73 = .ok (.invokevirtual 100, 3) := by decide +kernel
theorem dX7_earth_76 : decode cX7_earth 76 = .ok (.ifCond .eq 5, 3) := by decide +kernel
theorem dX7_earth_79 : decode cX7_earth 79 = .ok (.iconst 0, 1) := by decide +kernel
theorem dX7_earth_80 : decode cX7_earth 80 = .ok (.ireturn, 1) := by decide +kernel
theorem dX7_earth_81 : decode cX7_earth 81 = .ok (.aload_n 0, 1) := by decide +kernel
theorem dX7_earth_82 : decode cX7_earth 82 = .ok (.getfield 9, 3) := by decide +kernel
theorem dX7_earth_85 : decode cX7_earth 85 = .ok (.aload_n 0, 1) := by decide +kernel
theorem dX7_earth_86 : decode cX7_earth 86 = .ok (.getfield 104, 3) := by decide +kernel
theorem dX7_earth_89 : decode cX7_earth 89 = .ok (.iload_n 1, 1) := by decide +kernel
theorem dX7_earth_90 : decode cX7_earth 90 = .ok (.iastore, 1) := by decide +kernel
theorem dX7_earth_91 : decode cX7_earth 91 = .ok (.aload_n 0, 1) := by decide +kernel
theorem dX7_earth_92 : decode cX7_earth 92 = .ok (.getfield 13, 3) := by decide +kernel
theorem dX7_earth_95 : decode cX7_earth 95 = .ok (.aload_n 0, 1) := by decide +kernel
theorem dX7_earth_96 : decode cX7_earth 96 = .ok (.getfield 104, 3) := by decide +kernel
theorem dX7_earth_99 : decode cX7_earth 99 = .ok (.iload_n 2, 1) := by decide +kernel
theorem dX7_earth_100 : decode cX7_earth 100 = .ok (.iastore, 1) := by decide +kernel
theorem dX7_earth_101 : decode cX7_earth 101 = .ok (.aload_n 0, 1) := by decide +kernel
theorem dX7_earth_102 : decode cX7_earth 102 = .ok (.getfield 16, 3) := by decide +kernel
theorem dX7_earth_105 : decode cX7_earth 105 = .ok (.aload_n 0, 1) := by decide +kernel
theorem dX7_earth_106 : decode cX7_earth 106 = .ok (.getfield 104, 3) := by decide +kernel
theorem dX7_earth_109 : decode cX7_earth 109 = .ok (.iload_n 3, 1) := by decide +kernel
theorem dX7_earth_110 : decode cX7_earth 110 = .ok (.iastore, 1) := by decide +kernel
theorem dX7_earth_111 : decode cX7_earth 111 = .ok (.aload_n 0, 1) := by decide +kernel
theorem dX7_earth_112 : decode cX7_earth 112 = .ok (.getfield 19, 3) := by decide +kernel
theorem dX7_earth_115 : decode cX7_earth 115 = .ok (.aload_n 0, 1) := by decide +kernel
theorem dX7_earth_116 : decode cX7_earth 116 = .ok (.getfield 104, 3) := by decide +kernel
theorem dX7_earth_119 : decode cX7_earth 119 = .ok (.iload 4, 2) := by decide +kernel
theorem dX7_earth_121 : decode cX7_earth 121 = .ok (.iastore, 1) := by decide +kernel
theorem dX7_earth_122 : decode cX7_earth 122 = .ok (.aload_n 0, 1) := by decide +kernel
theorem dX7_earth_123 : decode cX7_earth 123 = .ok (.dup, 1) := by decide +kernel
theorem dX7_earth_124 : decode cX7_earth 124 = .ok (.getfield 104, 3) := by decide +kernel
theorem dX7_earth_127 : decode cX7_earth 127 = .ok (.iconst 1, 1) := by decide +kernel
theorem dX7_earth_128 : decode cX7_earth 128 = .ok (.iadd, 1) := by decide +kernel
theorem dX7_earth_129 : decode cX7_earth 129 = .ok (.putfield 104, 3) := by decide +kernel
theorem dX7_earth_132 : decode cX7_earth 132 = .ok (.aload_n 0, 1) := by decide +kernel
theorem dX7_earth_133 : decode cX7_earth 133 = .ok (.getfield 104, 3) := by decide +kernel
theorem dX7_earth_136 : decode cX7_earth 136 = .ok (.iconst 1, 1) := by decide +kernel
theorem dX7_earth_137 : decode cX7_earth 137 = .ok (.isub, 1) := by decide +kernel
theorem dX7_earth_138 : decode cX7_earth 138 = .ok (.ireturn, 1) := by decide +kernel
set_option maxRecDepth 20000 in
theorem ggX7_noEarth_X7_in : GoodIn wsX7_noEarth wsX7_in := goodIn_r _ [5] (by decide +kernel) (by decide +kernel)
set_option maxRecDepth 20000 in
theorem gX7_noEarth_X7_in : GoodIn wsX7_noEarth (va_wsS RX7 96 yX7_in wsX7_in) := goodIn_app (goodIn_of _ (by decide +kernel)) ggX7_noEarth_X7_in
theorem dX7_noEarth_0 : decode cX7_noEarth 0 = .ok (.iload_n 1, 1) := by decide +kernel
theorem dX7_noEarth_1 : decode cX7_noEarth 1 = .ok (.iconst 0, 1) := by decide +kernel
theorem dX7_noEarth_2 : decode cX7_noEarth 2 = .ok (.aload_n 0, 1) := by decide +kernel
theorem dX7_noEarth_3 : decode cX7_noEarth 3 = .ok (.getfield 104, 3) := by decide +kernel
theorem dX7_noEarth_6 : decode cX7_noEarth 6 = .ok (.iconst 1, 1) := by decide +kernel
theorem dX7_noEarth_7 : decode cX7_noEarth 7 = .ok (.isub, 1) := by decide +kernel
theorem dX7_noEarth_8 : decode cX7_noEarth 8 = .ok (.invokestatic 96, 3) := by decide +kernel
theorem dX7_noEarth_11 : decode cX7_noEarth 11 = .ok (.ifCond .ne 7, 3) := by decide +kernel
theorem dX7_noEarth_14 : decode cX7_noEarth 14 = .ok (.iconst 1, 1) := by decide +kernel
theorem dX7_noEarth_15 : decode cX7_noEarth 15 = .ok (.goto 4, 3) := by decide +kernel
theorem dX7_noEarth_18 : decode cX7_noEarth 18 = .ok (.iconst 0, 1) := by decide +kernel
theorem dX7_noEarth_19 : decode cX7_noEarth 19 = .ok (.ireturn, 1) := by decide +kernel
set_option maxRecDepth 20000 in
theorem ggX7_bring_X7_noEarth : GoodIn wsX7_bring wsX7_noEarth := goodIn_r _ [7, 8, 9, 10, 6, 11, 16, 17, 18, 19, 20, 21, 22, 23, 24, 25, 26, 27, 28, 29, 30, 31, 32, 33, 34, 35, 36, 37, 38, 39, 40, 41, 42, 43, 44, 45, 46, 47, 48, 49, 50, 51, 52, 53, 54, 55, 56, 57] (by decide +kernel) (by decide +kernel)
set_option maxRecDepth 20000 in
theorem gX7_bring_X7_noEarth : GoodIn wsX7_bring (wsV RX7 107 RX7 yX7_noEarth wsX7_noEarth) := goodIn_app (goodIn_of _ (by decide +kernel)) ggX7_bring_X7_noEarth
set_option maxRecDepth 20000 in
theorem ggX7_bring_X7_throwsIf : GoodIn wsX7_bring wsX7_throwsIf := goodIn_r _ [15, 1, 16, 17, 18, 19, 20, 21, 22, 23, 24, 25, 26, 27, 28, 29, 30, 31, 32, 33, 34, 35, 36, 37, 38, 39, 40, 41, 42, 43, 44, 45, 46, 47, 48, 49, 50, 51, 52, 53, 54, 55, 56, 57] (by decide +kernel) (by decide +kernel)
set_option maxRecDepth 20000 in
theorem gX7_bring_X7_throwsIf : GoodIn wsX7_bring (wsV RX7 100 RX7 yX7_throwsIf wsX7_throwsIf) := goodIn_app (goodIn_of _ (by decide +kernel)) ggX7_bring_X7_throwsIf
set_option maxRecDepth 20000 in
theorem ggX7_bring_X7_in : GoodIn wsX7_bring wsX7_in := goodIn_r _ [11] (by decide +kernel) (by decide +kernel)
set_option maxRecDepth 20000 in
theorem gX7_bring_X7_in : GoodIn wsX7_bring (va_wsS RX7 96 yX7_in wsX7_in) := goodIn_app (goodIn_of _ (by decide +kernel)) ggX7_bring_X7_in
theorem dX7_bring_0 : decode cX7_bring 0 = .ok (.aload_n 0, 1) := by decide +kernel
theorem dX7_bring_1 : decode cX7_bring 1 = .ok (.iconst 0, 1) := by decide +kernel
theorem dX7_bring_2 : decode cX7_bring 2 = .ok (.putfield 93, 3) := by decide +kernel
theorem dX7_bring_5 : decode cX7_bring 5 = .ok (.aload_n 0, 1) := by decide +kernel
theorem dX7_bring_6 : decode cX7_bring 6 = .ok (.aload_n 0, 1) := by decide +kernel
theorem dX7_bring_7 : decode cX7_bring 7 = .ok (.iload_n 1, 1) := by decide +kernel
theorem dX7_bring_8 : decode cX7_bring 8 = .ok (.invokevirtual 107, 3) := by decide +kernel
theorem dX7_bring_11 : decode cX7_bring 11 = .ok (.iconst 1, 1) := by decide +kernel
theorem dX7_bring_12 : decode cX7_bring 12 = .ok (.invokevirtual 100, 3) := by decide +kernel
theorem dX7_bring_15 : decode cX7_bring 15 = .ok (.ifCond .ne 41, 3) := by decide +kernel
theorem dX7_bring_18 : decode cX7_bring 18 = .ok (.aload_n 0, 1) := by decide +kernel
theorem dX7_bring_19 : decode cX7_bring 19 = .ok (.iload_n 2, 1) := by decide +kernel
theorem dX7_bring_20 : decode cX7_bring 20 = .ok (.iconst 0, 1) := by decide +kernel
theorem dX7_bring_21 : decode cX7_bring 21 = .ok (.sipush 1000, 3) := by decide +kernel
theorem dX7_bring_24 : decode cX7_bring 24 = .ok (.invokestatic 96, 3) := by decide +kernel
theorem dX7_bring_27 : decode cX7_bring 27 = .ok (.ifCond .eq 17, 3) := by decide +kernel
theorem dX7_bring_30 : decode cX7_bring 30 = .ok (.aload_n 0, 1) := by decide +kernel
theorem dX7_bring_31 : decode cX7_bring 31 = .ok (.getfield 19, 3) := by decide +kernel
theorem dX7_bring_34 : decode cX7_bring 34 = .ok (.iload_n 1, 1) := by decide +kernel
theorem dX7_bring_35 : decode cX7_bring 35 = .ok (.iaload, 1) := by decide +kernel
theorem dX7_bring_36 : decode cX7_bring 36 = .ok (.iload_n 2, 1) := by decide +kernel
theorem dX7_bring_37 : decode cX7_bring 37 = .ok (.iadd, 1) := by decide +kernel
theorem dX7_bring_38 : decode cX7_bring 38 = .ok (.sipush 1000, 3) := by decide +kernel
theorem dX7_bring_41 : decode cX7_bring 41 = .ok (.if_icmp .le 7, 3) := by decide +kernel
theorem dX7_bring_44 : decode cX7_bring 44 = .ok (.iconst 1, 1) := by decide +kernel
theorem dX7_bring_45 : decode cX7_bring 45 = .ok (.goto 4, 3) := by decide +kernel
theorem dX7_bring_48 : decode cX7_bring 48 = .ok (.iconst 0, 1) := by decide +kernel
theorem dX7_bring_49 : decode cX7_bring 49 = .ok (.iconst 2, 1) := by decide +kernel
theorem dX7_bring_50 : decode cX7_bring 50 = .ok (.invokevirtual 100, 3) := by decide +kernel
theorem dX7_bring_53 : decode cX7_bring 53 = .ok (.ifCond .eq 5, 3) := by decide +kernel
theorem dX7_bring_56 : decode cX7_bring 56 = .ok (.iconst 0, 1) := by decide +kernel
theorem dX7_bring_57 : decode cX7_bring 57 = .ok (.ireturn, 1) := by decide +kernel
theorem dX7_bring_58 : decode cX7_bring 58 = .ok (.aload_n 0, 1) := by decide +kernel
theorem dX7_bring_59 : decode cX7_bring 59 = .ok (.getfield 19, 3) := by decide +kernel
theorem dX7_bring_62 : decode cX7_bring 62 = .ok (.iload_n 1, 1) := by decide +kernel
theorem dX7_bring_63 : decode cX7_bring 63 = .ok (.dup2, 1) := by decide +kernel
theorem dX7_bring_64 : decode cX7_bring 64 = .ok (.iaload, 1) := by decide +kernel
theorem dX7_bring_65 : decode cX7_bring 65 = .ok (.iload_n 2, 1) := by decide +kernel
theorem dX7_bring_66 : decode cX7_bring 66 = .ok (.iadd, 1) := by decide +kernel
theorem dX7_bring_67 : decode cX7_bring 67 = .ok (.iastore, 1) := by decide +kernel
theorem dX7_bring_68 : decode cX7_bring 68 = .ok (.aload_n 0, 1) := by decide +kernel
theorem dX7_bring_69 : decode cX7_bring 69 = .ok (.getfield 19, 3) := by decide +kernel
theorem dX7_bring_72 : decode cX7_bring 72 = .ok (.iload_n 1, 1) := by decide +kernel
theorem dX7_bring_73 : decode cX7_bring 73 = .ok (.iaload, 1) := by decide +kernel
theorem dX7_bring_74 : decode cX7_bring 74 = .ok (.ireturn, 1) := by decide +kernel
set_option maxRecDepth 20000 in
theorem ggX7_goes_X7_goes : GoodIn wsX7_goes wsX7_goes := goodIn_r _ [0, 1, 2, 3, 4, 5, 6, 7, 8, 9, 10, 11, 12, 13, 14, 15, 16, 17, 18, 19, 20, 21, 22, 23, 24, 25, 26, 27, 28, 29, 30, 31, 32, 33, 34, 35, 36, 37, 38, 39, 40, 41, 42, 43, 44, 45, 46, 47, 48, 49, 50, 51, 52, 53, 54, 55, 56] (by decide +kernel) (by decide +kernel)
set_option maxRecDepth 20000 in
theorem gX7_goes_X7_goes : GoodIn wsX7_goes (wsV RX7 120 RX7 yX7_goes wsX7_goes) := goodIn_app (goodIn_of _ (by decide +kernel)) ggX7_goes_X7_goes
theorem dX7_goes_0 : decode cX7_goes 0 = .ok (.iload_n 1, 1) := by decide +kernel
theorem dX7_goes_1 : decode cX7_goes 1 = .ok (.aload_n 0, 1) := by decide +kernel
theorem dX7_goes_2 : decode cX7_goes 2 = .ok (.getfield 104, 3) := by decide +kernel
theorem dX7_goes_5 : decode cX7_goes 5 = .ok (.if_icmp .ne 110, 3) := by decide +kernel
theorem dX7_goes_8 : decode cX7_goes 8 = .ok (.iload_n 2, 1) := by decide +kernel
theorem dX7_goes_9 : decode cX7_goes 9 = .ok (.ifCond .gt 44, 3) := by decide +kernel
theorem dX7_goes_12 : decode cX7_goes 12 = .ok (.iload_n 3, 1) := by decide +kernel
theorem dX7_goes_13 : decode cX7_goes 13 = .ok (.bipush 10, 2) := by decide +kernel
theorem dX7_goes_15 : decode cX7_goes 15 = .ok (.idiv, 1) := by decide +kernel
theorem dX7_goes_16 : decode cX7_goes 16 = .ok (.iload 6, 2) := by decide +kernel
theorem dX7_goes_18 : decode cX7_goes 18 = .ok (.if_icmp .lt 35, 3) := by decide +kernel
theorem dX7_goes_21 : decode cX7_goes 21 = .ok (.iload 4, 2) := by decide +kernel
theorem dX7_goes_23 : decode cX7_goes 23 = .ok (.bipush 10, 2) := by decide +kernel
theorem dX7_goes_25 : decode cX7_goes 25 = .ok (.iadd, 1) := by decide +kernel
theorem dX7_goes_26 : decode cX7_goes 26 = .ok (.iconst 1, 1) := by decide +kernel
theorem dX7_goes_27 : decode cX7_goes 27 = .ok (.isub, 1) := by decide +kernel
theorem dX7_goes_28 : decode cX7_goes 28 = .ok (.bipush 10, 2) := by decide +kernel
theorem dX7_goes_30 : decode cX7_goes 30 = .ok (.idiv, 1) := by decide +kernel
theorem dX7_goes_31 : decode cX7_goes 31 = .ok (.iload 7, 2) := by decide +kernel
theorem dX7_goes_33 : decode cX7_goes 33 = .ok (.if_icmp .gt 20, 3) := by decide +kernel
theorem dX7_goes_36 : decode cX7_goes 36 = .ok (.aload_n 0, 1) := by decide +kernel
theorem dX7_goes_37 : decode cX7_goes 37 = .ok (.getfield 111, 3) := by decide +kernel
theorem dX7_goes_40 : decode cX7_goes 40 = .ok (.iconst (-1), 1) := by decide +kernel
theorem dX7_goes_41 : decode cX7_goes 41 = .ok (.if_icmp .eq 13, 3) := by decide +kernel
theorem dX7_goes_44 : decode cX7_goes 44 = .ok (.iload 5, 2) := by decide +kernel
theorem dX7_goes_46 : decode cX7_goes 46 = .ok (.aload_n 0, 1) := by decide +kernel
theorem dX7_goes_47 : decode cX7_goes 47 = .ok (.getfield 111, 3) := by decide +kernel
theorem dX7_goes_50 : decode cX7_goes 50 = .ok (.if_icmp .lt 4, 3) := by decide +kernel
theorem dX7_goes_53 : decode cX7_goes 53 = .ok (.return_, 1) := by decide +kernel
theorem dX7_goes_54 : decode cX7_goes 54 = .ok (.aload_n 0, 1) := by decide +kernel
theorem dX7_goes_55 : decode cX7_goes 55 = .ok (.iload 5, 2) := by decide +kernel
theorem dX7_goes_57 : decode cX7_goes 57 = .ok (.putfield 111, 3) := by decide +kernel
theorem dX7_goes_60 : decode cX7_goes 60 = .ok (.aload_n 0, 1) := by decide +kernel
theorem dX7_goes_61 : decode cX7_goes 61 = .ok (.iload_n 3, 1) := by decide +kernel
theorem dX7_goes_62 : decode cX7_goes 62 = .ok (.bipush 10, 2) := by decide +kernel
theorem dX7_goes_64 : decode cX7_goes 64 = .ok (.idiv, 1) := by decide +kernel
theorem dX7_goes_65 : decode cX7_goes 65 = .ok (.putfield 114, 3) := by decide +kernel
theorem dX7_goes_68 : decode cX7_goes 68 = .ok (.aload_n 0, 1) := by decide +kernel
theorem dX7_goes_69 : decode cX7_goes 69 = .ok (.iload 4, 2) := by decide +kernel
theorem dX7_goes_71 : decode cX7_goes 71 = .ok (.bipush 10, 2) := by decide +kernel
theorem dX7_goes_73 : decode cX7_goes 73 = .ok (.iadd, 1) := by decide +kernel
theorem dX7_goes_74 : decode cX7_goes 74 = .ok (.iconst 1, 1) := by decide +kernel
theorem dX7_goes_75 : decode cX7_goes 75 = .ok (.isub, 1) := by decide +kernel
theorem dX7_goes_76 : decode cX7_goes 76 = .ok (.bipush 10, 2) := by decide +kernel
theorem dX7_goes_78 : decode cX7_goes 78 = .ok (.idiv, 1) := by decide +kernel
theorem dX7_goes_79 : decode cX7_goes 79 = .ok (.putfield 117, 3) := by decide +kernel
theorem dX7_goes_82 : decode cX7_goes 82 = .ok (.iconst 0, 1) := by decide +kernel
theorem dX7_goes_83 : decode cX7_goes 83 = .ok (.istore 8, 2) := by decide +kernel
theorem dX7_goes_85 : decode cX7_goes 85 = .ok (.iload 8, 2) := by decide +kernel
theorem dX7_goes_87 : decode cX7_goes 87 = .ok (.aload_n 0, 1) := by decide +kernel
theorem dX7_goes_88 : decode cX7_goes 88 = .ok (.getfield 104, 3) := by decide +kernel
theorem dX7_goes_91 : decode cX7_goes 91 = .ok (.if_icmp .ge 23, 3) := by decide +kernel
theorem dX7_goes_94 : decode cX7_goes 94 = .ok (.aload_n 0, 1) := by decide +kernel
theorem dX7_goes_95 : decode cX7_goes 95 = .ok (.getfield 25, 3) := by decide +kernel
theorem dX7_goes_98 : decode cX7_goes 98 = .ok (.iload 8, 2) := by decide +kernel
theorem dX7_goes_100 : decode cX7_goes 100 = .ok (.aload_n 0, 1) := by decide +kernel
theorem dX7_goes_101 : decode cX7_goes 101 = .ok (.getfield 22, 3) := by decide +kernel
theorem dX7_goes_104 : decode cX7_goes 104 = .ok (.iload 8, 2) := by decide +kernel
theorem dX7_goes_106 : decode cX7_goes 106 = .ok (.iaload, 1) := by decide +kernel
theorem dX7_goes_107 : decode cX7_goes 107 = .ok (.iastore, 1) := by decide +kernel
theorem dX7_goes_108 : decode cX7_goes 108 = .ok (.iinc 8 1, 3) := by decide +kernel
theorem dX7_goes_111 : decode cX7_goes 111 = .ok (.goto (-26), 3) := by decide +kernel
theorem dX7_goes_114 : decode cX7_goes 114 = .ok (.return_, 1) := by decide +kernel
theorem dX7_goes_115 : decode cX7_goes 115 = .ok (.iconst 0, 1) := by decide +kernel
theorem dX7_goes_116 : decode cX7_goes 116 = .ok (.istore 8, 2) := by decide +kernel
theorem dX7_goes_118 : decode cX7_goes 118 = .ok (.iload 8, 2) := by decide +kernel
theorem dX7_goes_120 : decode cX7_goes 120 = .ok (.iload_n 2, 1) := by decide +kernel
theorem dX7_goes_121 : decode cX7_goes 121 = .ok (.if_icmp .gt 78, 3) := by decide +kernel
theorem dX7_goes_124 : decode cX7_goes 124 = .ok (.iload 8, 2) := by decide +kernel
theorem dX7_goes_126 : decode cX7_goes 126 = .ok (.aload_n 0, 1) := by decide +kernel
theorem dX7_goes_127 : decode cX7_goes 127 = .ok (.getfield 19, 3) := by decide +kernel
theorem dX7_goes_130 : decode cX7_goes 130 = .ok (.iload_n 1, 1) := by decide +kernel
theorem dX7_goes_131 : decode cX7_goes 131 = .ok (.iaload, 1) := by decide +kernel
theorem dX7_goes_132 : decode cX7_goes 132 = .ok (.if_icmp .gt 67, 3) := by decide +kernel
theorem dX7_goes_135 : decode cX7_goes 135 = .ok (.aload_n 0, 1) := by decide +kernel
theorem dX7_goes_136 : decode cX7_goes 136 = .ok (.getfield 22, 3) := by decide +kernel
theorem dX7_goes_139 : decode cX7_goes 139 = .ok (.iload_n 1, 1) := by decide +kernel
theorem dX7_goes_140 : decode cX7_goes 140 = .ok (.iload 8, 2) := by decide +kernel
theorem dX7_goes_142 : decode cX7_goes 142 = .ok (.iastore, 1) := by decide +kernel
theorem dX7_goes_143 : decode cX7_goes 143 = .ok (.aload_n 0, 1) := by decide +kernel
theorem dX7_goes_144 : decode cX7_goes 144 = .ok (.iload_n 1, 1) := by decide +kernel
theorem dX7_goes_145 : decode cX7_goes 145 = .ok (.iconst 1, 1) := by decide +kernel
theorem dX7_goes_146 : decode cX7_goes 146 = .ok (.iadd, 1) := by decide +kernel
theorem dX7_goes_147 : decode cX7_goes 147 = .ok (.iload_n 2, 1) := by decide +kernel
theorem dX7_goes_148 : decode cX7_goes 148 = .ok (.iload 8, 2) := by decide +kernel
theorem dX7_goes_150 : decode cX7_goes 150 = .ok (.isub, 1) := by decide +kernel
theorem dX7_goes_151 : decode cX7_goes 151 = .ok (.iload_n 3, 1) := by decide +kernel
theorem dX7_goes_152 : decode cX7_goes 152 = .ok (.iload 8, 2) := by decide +kernel
theorem dX7_goes_154 : decode cX7_goes 154 = .ok (.aload_n 0, 1) := by decide +kernel
theorem dX7_goes_155 : decode cX7_goes 155 = .ok (.getfield 9, 3) := by decide +kernel
theorem dX7_goes_158 : decode cX7_goes 158 = .ok (.iload_n 1, 1) := by decide +kernel
theorem dX7_goes_159 : decode cX7_goes 159 = .ok (.iaload, 1) := by decide +kernel
theorem dX7_goes_160 : decode cX7_goes 160 = .ok (.imul, 1) := by decide +kernel
theorem dX7_goes_161 : decode cX7_goes 161 = .ok (.iadd, 1) := by decide +kernel
theorem dX7_goes_162 : decode cX7_goes 162 = .ok (.iload 4, 2) := by decide +kernel
theorem dX7_goes_164 : decode cX7_goes 164 = .ok (.iload 8, 2) := by decide +kernel
theorem dX7_goes_166 : decode cX7_goes 166 = .ok (.aload_n 0, 1) := by decide +kernel
theorem dX7_goes_167 : decode cX7_goes 167 = .ok (.getfield 13, 3) := by decide +kernel
theorem dX7_goes_170 : decode cX7_goes 170 = .ok (.iload_n 1, 1) := by decide +kernel
theorem dX7_goes_171 : decode cX7_goes 171 = .ok (.iaload, 1) := by decide +kernel
theorem dX7_goes_172 : decode cX7_goes 172 = .ok (.imul, 1) := by decide +kernel
theorem dX7_goes_173 : decode cX7_goes 173 = .ok (.iadd, 1) := by decide +kernel
theorem dX7_goes_174 : decode cX7_goes 174 = .ok (.iload 5, 2) := by decide +kernel
theorem dX7_goes_176 : decode cX7_goes 176 = .ok (.iload 8, 2) := by decide +kernel
theorem dX7_goes_178 : decode cX7_goes 178 = .ok (.aload_n 0, 1) := by decide +kernel
theorem dX7_goes_179 : decode cX7_goes 179 = .ok (.getfield 16, 3) := by decide +kernel
theorem dX7_goes_182 : decode cX7_goes 182 = .ok (.iload_n 1, 1) := by decide +kernel
theorem dX7_goes_183 : decode cX7_goes 183 = .ok (.iaload, 1) := by decide +kernel
theorem dX7_goes_184 : decode cX7_goes 184 = .ok (.imul, 1) := by decide +kernel
theorem dX7_goes_185 : decode cX7_goes 185 = .ok (.iadd, 1) := by decide +kernel
theorem dX7_goes_186 : decode cX7_goes 186 = .ok (.iload 6, 2) := by decide +kernel
theorem dX7_goes_188 : decode cX7_goes 188 = .ok (.iload 7, 2) := by decide +kernel
theorem dX7_goes_190 : decode cX7_goes 190 = .ok (.invokevirtual 120, 3) := by decide +kernel
theorem dX7_goes_193 : decode cX7_goes 193 = .ok (.iinc 8 1, 3) := by decide +kernel
theorem dX7_goes_196 : decode cX7_goes 196 = .ok (.goto (-78), 3) := by decide +kernel
theorem dX7_goes_199 : decode cX7_goes 199 = .ok (.return_, 1) := by decide +kernel
set_option maxRecDepth 20000 in
theorem ggX7_blends_X7_goes : GoodIn wsX7_blends wsX7_goes := goodIn_r _ [6, 7, 1, 8, 9, 10, 11, 12, 13, 14, 15, 2, 3, 4, 5, 16, 17, 18, 19, 20, 21, 22, 23, 24, 25, 26, 27, 28, 29, 30, 31, 32, 33, 34, 35, 36, 37, 38, 39, 40, 41, 42, 43, 44, 45, 46, 47, 48, 49, 50, 51, 52, 53, 54, 55, 56, 57] (by decide +kernel) (by decide +kernel)
set_option maxRecDepth 20000 in
theorem gX7_blends_X7_goes : GoodIn wsX7_blends (wsV RX7 120 RX7 yX7_goes wsX7_goes) := goodIn_app (goodIn_of _ (by decide +kernel)) ggX7_blends_X7_goes
theorem dX7_blends_0 : decode cX7_blends 0 = .ok (.aload_n 0, 1) := by decide +kernel
theorem dX7_blends_1 : decode cX7_blends 1 = .ok (.iconst (-1), 1) := by decide +kernel
theorem dX7_blends_2 : decode cX7_blends 2 = .ok (.putfield 111, 3) := by decide +kernel
theorem dX7_blends_5 : decode cX7_blends 5 = .ok (.aload_n 0, 1) := by decide +kernel
theorem dX7_blends_6 : decode cX7_blends 6 = .ok (.iconst 0, 1) := by decide +kernel
theorem dX7_blends_7 : decode cX7_blends 7 = .ok (.bipush 10, 2) := by decide +kernel
theorem dX7_blends_9 : decode cX7_blends 9 = .ok (.iconst 0, 1) := by decide +kernel
theorem dX7_blends_10 : decode cX7_blends 10 = .ok (.iconst 0, 1) := by decide +kernel
theorem dX7_blends_11 : decode cX7_blends 11 = .ok (.iconst 0, 1) := by decide +kernel
theorem dX7_blends_12 : decode cX7_blends 12 = .ok (.iload_n 1, 1) := by decide +kernel
theorem dX7_blends_13 : decode cX7_blends 13 = .ok (.iload_n 2, 1) := by decide +kernel
theorem dX7_blends_14 : decode cX7_blends 14 = .ok (.invokevirtual 120, 3) := by decide +kernel
theorem dX7_blends_17 : decode cX7_blends 17 = .ok (.aload_n 0, 1) := by decide +kernel
theorem dX7_blends_18 : decode cX7_blends 18 = .ok (.getfield 111, 3) := by decide +kernel
theorem dX7_blends_21 : decode cX7_blends 21 = .ok (.ireturn, 1) := by decide +kernel
theorem dX7_noGrade_0 : decode cX7_noGrade 0 = .ok (.iload_n 0, 1) := by decide +kernel
theorem dX7_noGrade_1 : decode cX7_noGrade 1 = .ok (.ifCond .lt 15, 3) := by decide +kernel
theorem dX7_noGrade_4 : decode cX7_noGrade 4 = .ok (.iload_n 1, 1) := by decide +kernel
theorem dX7_noGrade_5 : decode cX7_noGrade 5 = .ok (.iload_n 0, 1) := by decide +kernel
theorem dX7_noGrade_6 : decode cX7_noGrade 6 = .ok (.if_icmp .lt 10, 3) := by decide +kernel
theorem dX7_noGrade_9 : decode cX7_noGrade 9 = .ok (.iload_n 1, 1) := by decide +kernel
theorem dX7_noGrade_10 : decode cX7_noGrade 10 = .ok (.sipush 1000, 3) := by decide +kernel
theorem dX7_noGrade_13 : decode cX7_noGrade 13 = .ok (.if_icmp .le 7, 3) := by decide +kernel
theorem dX7_noGrade_16 : decode cX7_noGrade 16 = .ok (.iconst 1, 1) := by decide +kernel
theorem dX7_noGrade_17 : decode cX7_noGrade 17 = .ok (.goto 4, 3) := by decide +kernel
theorem dX7_noGrade_20 : decode cX7_noGrade 20 = .ok (.iconst 0, 1) := by decide +kernel
theorem dX7_noGrade_21 : decode cX7_noGrade 21 = .ok (.ireturn, 1) := by decide +kernel
set_option maxRecDepth 20000 in
theorem ggX7_blend_X7_noGrade : GoodIn wsX7_blend wsX7_noGrade := goodIn_r _ [5] (by decide +kernel) (by decide +kernel)
set_option maxRecDepth 20000 in
theorem gX7_blend_X7_noGrade : GoodIn wsX7_blend (va_wsS RX7 124 yX7_noGrade wsX7_noGrade) := goodIn_app (goodIn_of _ (by decide +kernel)) ggX7_blend_X7_noGrade
set_option maxRecDepth 20000 in
theorem ggX7_blend_X7_throwsIf : GoodIn wsX7_blend wsX7_throwsIf := goodIn_r _ [9, 1, 28, 29, 30, 31, 32, 33, 34, 35, 36, 37, 38, 39, 40, 41, 42, 43, 44, 45, 46, 47, 48, 49, 50, 51, 52, 53, 54, 55, 56, 57, 58, 59, 60, 61, 62, 63, 64, 65, 66, 67, 68, 69] (by decide +kernel) (by decide +kernel)
set_option maxRecDepth 20000 in
theorem gX7_blend_X7_throwsIf : GoodIn wsX7_blend (wsV RX7 100 RX7 yX7_throwsIf wsX7_throwsIf) := goodIn_app (goodIn_of _ (by decide +kernel)) ggX7_blend_X7_throwsIf
set_option maxRecDepth 20000 in
theorem ggX7_blend_X7_blends : GoodIn wsX7_blend wsX7_blends := goodIn_r _ [13, 14, 15, 16, 17, 4, 18, 19, 20, 21, 22, 23, 24, 25, 26, 27, 28, 29, 30, 31, 32, 33, 34, 35, 36, 37, 38, 39, 40, 41, 42, 43, 44, 45, 46, 47, 48, 49, 50, 51, 52, 53, 54, 55, 56, 57, 58, 59, 60, 61, 62, 63, 64, 65, 66, 67, 68, 69] (by decide +kernel) (by decide +kernel)
set_option maxRecDepth 20000 in
theorem gX7_blend_X7_blends : GoodIn wsX7_blend (wsV RX7 128 RX7 yX7_blends wsX7_blends) := goodIn_app (goodIn_of _ (by decide +kernel)) ggX7_blend_X7_blends
theorem dX7_blend_0 : decode cX7_blend 0 = .ok (.aload_n 0, 1) := by decide +kernel
theorem dX7_blend_1 : decode cX7_blend 1 = .ok (.iconst 0, 1) := by decide +kernel
theorem dX7_blend_2 : decode cX7_blend 2 = .ok (.putfield 93, 3) := by decide +kernel
theorem dX7_blend_5 : decode cX7_blend 5 = .ok (.aload_n 0, 1) := by decide +kernel
theorem dX7_blend_6 : decode cX7_blend 6 = .ok (.iload_n 1, 1) := by decide +kernel
theorem dX7_blend_7 : decode cX7_blend 7 = .ok (.iload_n 2, 1) := by decide +kernel
theorem dX7_blend_8 : decode cX7_blend 8 = .ok (.invokestatic 124, 3) := by decide +kernel
theorem dX7_blend_11 : decode cX7_blend 11 = .ok (.iconst 1, 1) := by decide +kernel
theorem dX7_blend_12 : decode cX7_blend 12 = .ok (.invokevirtual 100, 3) := by decide +kernel
theorem dX7_blend_15 : decode cX7_blend 15 = .ok (.ifCond .eq 7, 3) := by decide +kernel
theorem dX7_blend_18 : decode cX7_blend 18 = .ok (.iconst 0, 1) := by decide +kernel
theorem dX7_blend_19 : decode cX7_blend 19 = .ok (.goto 9, 3) := by decide +kernel
theorem dX7_blend_22 : decode cX7_blend 22 = .ok (.aload_n 0, 1) := by decide +kernel
theorem dX7_blend_23 : decode cX7_blend 23 = .ok (.iload_n 1, 1) := by decide +kernel
theorem dX7_blend_24 : decode cX7_blend 24 = .ok (.iload_n 2, 1) := by decide +kernel
theorem dX7_blend_25 : decode cX7_blend 25 = .ok (.invokevirtual 128, 3) := by decide +kernel
theorem dX7_blend_28 : decode cX7_blend 28 = .ok (.ireturn, 1) := by decide +kernel
set_option maxRecDepth 20000 in
theorem ggX7_parts_X7_noEarth : GoodIn wsX7_parts wsX7_noEarth := goodIn_r _ [7, 8, 9, 10, 6, 11, 35, 36, 37, 38, 39, 40, 41, 42, 43, 44, 45, 46, 47, 48, 49, 50, 51, 52, 53, 54, 55, 56, 57, 58, 59, 60, 61, 62, 63, 64, 65, 66, 67, 68, 69, 70, 71, 72, 73, 74, 75, 76] (by decide +kernel) (by decide +kernel)
set_option maxRecDepth 20000 in
theorem gX7_parts_X7_noEarth : GoodIn wsX7_parts (wsV RX7 107 RX7 yX7_noEarth wsX7_noEarth) := goodIn_app (goodIn_of _ (by decide +kernel)) ggX7_parts_X7_noEarth
set_option maxRecDepth 20000 in
theorem ggX7_parts_X7_throwsIf : GoodIn wsX7_parts wsX7_throwsIf := goodIn_r _ [15, 1, 35, 36, 37, 38, 39, 40, 41, 42, 43, 44, 45, 46, 47, 48, 49, 50, 51, 52, 53, 54, 55, 56, 57, 58, 59, 60, 61, 62, 63, 64, 65, 66, 67, 68, 69, 70, 71, 72, 73, 74, 75, 76] (by decide +kernel) (by decide +kernel)
set_option maxRecDepth 20000 in
theorem gX7_parts_X7_throwsIf : GoodIn wsX7_parts (wsV RX7 100 RX7 yX7_throwsIf wsX7_throwsIf) := goodIn_app (goodIn_of _ (by decide +kernel)) ggX7_parts_X7_throwsIf
set_option maxRecDepth 20000 in
theorem ggX7_parts_X7_noGrade : GoodIn wsX7_parts wsX7_noGrade := goodIn_r _ [18] (by decide +kernel) (by decide +kernel)
set_option maxRecDepth 20000 in
theorem gX7_parts_X7_noGrade : GoodIn wsX7_parts (va_wsS RX7 124 yX7_noGrade wsX7_noGrade) := goodIn_app (goodIn_of _ (by decide +kernel)) ggX7_parts_X7_noGrade
set_option maxRecDepth 20000 in
theorem ggX7_parts_X7_blends : GoodIn wsX7_parts wsX7_blends := goodIn_r _ [22, 23, 24, 25, 26, 6, 27, 8, 28, 29, 2, 30, 31, 32, 33, 34, 35, 36, 37, 38, 39, 40, 41, 42, 43, 44, 45, 46, 47, 48, 49, 50, 51, 52, 53, 54, 55, 56, 57, 58, 59, 60, 61, 62, 63, 64, 65, 66, 67, 68, 69, 70, 71, 72, 73, 74, 75, 76] (by decide +kernel) (by decide +kernel)
set_option maxRecDepth 20000 in
theorem gX7_parts_X7_blends : GoodIn wsX7_parts (wsV RX7 128 RX7 yX7_blends wsX7_blends) := goodIn_app (goodIn_of _ (by decide +kernel)) ggX7_parts_X7_blends
theorem dX7_parts_0 : decode cX7_parts 0 = .ok (.aload_n 0, 1) := by decide +kernel
theorem dX7_parts_1 : decode cX7_parts 1 = .ok (.iconst 0, 1) := by decide +kernel
theorem dX7_parts_2 : decode cX7_parts 2 = .ok (.putfield 93, 3) := by decide +kernel
theorem dX7_parts_5 : decode cX7_parts 5 = .ok (.aload_n 0, 1) := by decide +kernel
theorem dX7_parts_6 : decode cX7_parts 6 = .ok (.aload_n 0, 1) := by decide +kernel
theorem dX7_parts_7 : decode cX7_parts 7 = .ok (.iload_n 3, 1) := by decide +kernel
theorem dX7_parts_8 : decode cX7_parts 8 = .ok (.invokevirtual 107, 3) := by decide +kernel
theorem dX7_parts_11 : decode cX7_parts 11 = .ok (.iconst 1, 1) := by decide +kernel
theorem dX7_parts_12 : decode cX7_parts 12 = .ok (.invokevirtual 100, 3) := by decide +kernel
theorem dX7_parts_15 : decode cX7_parts 15 = .ok (.ifCond .ne 16, 3) := by decide +kernel
theorem dX7_parts_18 : decode cX7_parts 18 = .ok (.aload_n 0, 1) := by decide +kernel
theorem dX7_parts_19 : decode cX7_parts 19 = .ok (.iload_n 1, 1) := by decide +kernel
theorem dX7_parts_20 : decode cX7_parts 20 = .ok (.iload_n 2, 1) := by decide +kernel
theorem dX7_parts_21 : decode cX7_parts 21 = .ok (.invokestatic 124, 3) := by decide +kernel
theorem dX7_parts_24 : decode cX7_parts 24 = .ok (.iconst 2, 1) := by decide +kernel
theorem dX7_parts_25 : decode cX7_parts 25 = .ok (.invokevirtual 100, 3) := by decide +kernel
theorem dX7_parts_28 : decode cX7_parts 28 = .ok (.ifCond .eq 5, 3) := by decide +kernel
theorem dX7_parts_31 : decode cX7_parts 31 = .ok (.iconst 0, 1) := by decide +kernel
theorem dX7_parts_32 : decode cX7_parts 32 = .ok (.ireturn, 1) := by decide +kernel
theorem dX7_parts_33 : decode cX7_parts 33 = .ok (.aload_n 0, 1) := by decide +kernel
theorem dX7_parts_34 : decode cX7_parts 34 = .ok (.iload_n 1, 1) := by decide +kernel
theorem dX7_parts_35 : decode cX7_parts 35 = .ok (.iload_n 2, 1) := by decide +kernel
theorem dX7_parts_36 : decode cX7_parts 36 = .ok (.invokevirtual 128, 3) := by decide +kernel
theorem dX7_parts_39 : decode cX7_parts 39 = .ok (.iconst (-1), 1) := by decide +kernel
theorem dX7_parts_40 : decode cX7_parts 40 = .ok (.if_icmp .ne 7, 3) := by decide +kernel
theorem dX7_parts_43 : decode cX7_parts 43 = .ok (.iconst (-1), 1) := by decide +kernel
theorem dX7_parts_44 : decode cX7_parts 44 = .ok (.goto 9, 3) := by decide +kernel
theorem dX7_parts_47 : decode cX7_parts 47 = .ok (.aload_n 0, 1) := by decide +kernel
theorem dX7_parts_48 : decode cX7_parts 48 = .ok (.getfield 25, 3) := by decide +kernel
theorem dX7_parts_51 : decode cX7_parts 51 = .ok (.iload_n 3, 1) := by decide +kernel
theorem dX7_parts_52 : decode cX7_parts 52 = .ok (.iaload, 1) := by decide +kernel
theorem dX7_parts_53 : decode cX7_parts 53 = .ok (.ireturn, 1) := by decide +kernel
set_option maxRecDepth 20000 in
theorem ggX7_noLot_X7_in : GoodIn wsX7_noLot wsX7_in := goodIn_r _ [5] (by decide +kernel) (by decide +kernel)
set_option maxRecDepth 20000 in
theorem gX7_noLot_X7_in : GoodIn wsX7_noLot (va_wsS RX7 96 yX7_in wsX7_in) := goodIn_app (goodIn_of _ (by decide +kernel)) ggX7_noLot_X7_in
theorem dX7_noLot_0 : decode cX7_noLot 0 = .ok (.iload_n 1, 1) := by decide +kernel
theorem dX7_noLot_1 : decode cX7_noLot 1 = .ok (.iconst 0, 1) := by decide +kernel
theorem dX7_noLot_2 : decode cX7_noLot 2 = .ok (.aload_n 0, 1) := by decide +kernel
theorem dX7_noLot_3 : decode cX7_noLot 3 = .ok (.getfield 132, 3) := by decide +kernel
theorem dX7_noLot_6 : decode cX7_noLot 6 = .ok (.iconst 1, 1) := by decide +kernel
theorem dX7_noLot_7 : decode cX7_noLot 7 = .ok (.isub, 1) := by decide +kernel
theorem dX7_noLot_8 : decode cX7_noLot 8 = .ok (.invokestatic 96, 3) := by decide +kernel
theorem dX7_noLot_11 : decode cX7_noLot 11 = .ok (.ifCond .ne 7, 3) := by decide +kernel
theorem dX7_noLot_14 : decode cX7_noLot 14 = .ok (.iconst 1, 1) := by decide +kernel
theorem dX7_noLot_15 : decode cX7_noLot 15 = .ok (.goto 4, 3) := by decide +kernel
theorem dX7_noLot_18 : decode cX7_noLot 18 = .ok (.iconst 0, 1) := by decide +kernel
theorem dX7_noLot_19 : decode cX7_noLot 19 = .ok (.ireturn, 1) := by decide +kernel
theorem dX7_adds_0 : decode cX7_adds 0 = .ok (.aload_n 0, 1) := by decide +kernel
theorem dX7_adds_1 : decode cX7_adds 1 = .ok (.getfield 28, 3) := by decide +kernel
theorem dX7_adds_4 : decode cX7_adds 4 = .ok (.aload_n 0, 1) := by decide +kernel
theorem dX7_adds_5 : decode cX7_adds 5 = .ok (.getfield 132, 3) := by decide +kernel
theorem dX7_adds_8 : decode cX7_adds 8 = .ok (.iload_n 1, 1) := by decide +kernel
theorem dX7_adds_9 : decode cX7_adds 9 = .ok (.iastore, 1) := by decide +kernel
theorem dX7_adds_10 : decode cX7_adds 10 = .ok (.aload_n 0, 1) := by decide +kernel
theorem dX7_adds_11 : decode cX7_adds 11 = .ok (.getfield 31, 3) := by decide +kernel
theorem dX7_adds_14 : decode cX7_adds 14 = .ok (.aload_n 0, 1) := by decide +kernel
theorem dX7_adds_15 : decode cX7_adds 15 = .ok (.getfield 132, 3) := by decide +kernel
theorem dX7_adds_18 : decode cX7_adds 18 = .ok (.iload_n 2, 1) := by decide +kernel
theorem dX7_adds_19 : decode cX7_adds 19 = .ok (.iastore, 1) := by decide +kernel
theorem dX7_adds_20 : decode cX7_adds 20 = .ok (.aload_n 0, 1) := by decide +kernel
theorem dX7_adds_21 : decode cX7_adds 21 = .ok (.getfield 37, 3) := by decide +kernel
theorem dX7_adds_24 : decode cX7_adds 24 = .ok (.aload_n 0, 1) := by decide +kernel
theorem dX7_adds_25 : decode cX7_adds 25 = .ok (.getfield 132, 3) := by decide +kernel
theorem dX7_adds_28 : decode cX7_adds 28 = .ok (.iload_n 3, 1) := by decide +kernel
theorem dX7_adds_29 : decode cX7_adds 29 = .ok (.iastore, 1) := by decide +kernel
theorem dX7_adds_30 : decode cX7_adds 30 = .ok (.aload_n 0, 1) := by decide +kernel
theorem dX7_adds_31 : decode cX7_adds 31 = .ok (.getfield 40, 3) := by decide +kernel
theorem dX7_adds_34 : decode cX7_adds 34 = .ok (.aload_n 0, 1) := by decide +kernel
theorem dX7_adds_35 : decode cX7_adds 35 = .ok (.getfield 132, 3) := by decide +kernel
theorem dX7_adds_38 : decode cX7_adds 38 = .ok (.iload 4, 2) := by decide +kernel
theorem dX7_adds_40 : decode cX7_adds 40 = .ok (.iastore, 1) := by decide +kernel
theorem dX7_adds_41 : decode cX7_adds 41 = .ok (.aload_n 0, 1) := by decide +kernel
theorem dX7_adds_42 : decode cX7_adds 42 = .ok (.dup, 1) := by decide +kernel
theorem dX7_adds_43 : decode cX7_adds 43 = .ok (.getfield 132, 3) := by decide +kernel
theorem dX7_adds_46 : decode cX7_adds 46 = .ok (.iconst 1, 1) := by decide +kernel
theorem dX7_adds_47 : decode cX7_adds 47 = .ok (.iadd, 1) := by decide +kernel
theorem dX7_adds_48 : decode cX7_adds 48 = .ok (.putfield 132, 3) := by decide +kernel
theorem dX7_adds_51 : decode cX7_adds 51 = .ok (.aload_n 0, 1) := by decide +kernel
theorem dX7_adds_52 : decode cX7_adds 52 = .ok (.getfield 132, 3) := by decide +kernel
theorem dX7_adds_55 : decode cX7_adds 55 = .ok (.iconst 1, 1) := by decide +kernel
theorem dX7_adds_56 : decode cX7_adds 56 = .ok (.isub, 1) := by decide +kernel
theorem dX7_adds_57 : decode cX7_adds 57 = .ok (.ireturn, 1) := by decide +kernel
set_option maxRecDepth 20000 in
theorem ggX7_cores_X7_noGrade : GoodIn wsX7_cores wsX7_noGrade := goodIn_r _ [11] (by decide +kernel) (by decide +kernel)
set_option maxRecDepth 20000 in
theorem gX7_cores_X7_noGrade : GoodIn wsX7_cores (va_wsS RX7 124 yX7_noGrade wsX7_noGrade) := goodIn_app (goodIn_of _ (by decide +kernel)) ggX7_cores_X7_noGrade
set_option maxRecDepth 20000 in
theorem ggX7_cores_X7_throwsIf : GoodIn wsX7_cores wsX7_throwsIf := goodIn_r _ [15, 1, 37, 38, 39, 40, 41, 42, 43, 44, 45, 46, 47, 48, 49, 50, 51, 52, 53, 54, 55, 56, 57, 58, 59, 60, 61, 62, 63, 64, 65, 66, 67, 68, 69, 70, 71, 72, 73, 74, 75, 76, 77, 78] (by decide +kernel) (by decide +kernel)
set_option maxRecDepth 20000 in
theorem gX7_cores_X7_throwsIf : GoodIn wsX7_cores (wsV RX7 100 RX7 yX7_throwsIf wsX7_throwsIf) := goodIn_app (goodIn_of _ (by decide +kernel)) ggX7_cores_X7_throwsIf
set_option maxRecDepth 20000 in
theorem ggX7_cores_X7_blends : GoodIn wsX7_cores wsX7_blends := goodIn_r _ [19, 20, 21, 22, 23, 10, 24, 3, 6, 7, 5, 25, 4, 26, 27, 28, 37, 38, 39, 40, 41, 42, 43, 44, 45, 46, 47, 48, 49, 50, 51, 52, 53, 54, 55, 56, 57, 58, 59, 60, 61, 62, 63, 64, 65, 66, 67, 68, 69, 70, 71, 72, 73, 74, 75, 76, 77, 78] (by decide +kernel) (by decide +kernel)
set_option maxRecDepth 20000 in
theorem gX7_cores_X7_blends : GoodIn wsX7_cores (wsV RX7 128 RX7 yX7_blends wsX7_blends) := goodIn_app (goodIn_of _ (by decide +kernel)) ggX7_cores_X7_blends
set_option maxRecDepth 20000 in
theorem ggX7_cores_X7_adds : GoodIn wsX7_cores wsX7_adds := goodIn_r _ [32, 33, 2, 34, 35, 36, 37, 38, 39, 40, 41, 42, 43, 44, 45, 46, 47, 48, 49, 50, 51, 52, 53, 54, 55, 56, 57, 58, 59, 60, 61, 62, 63, 64, 65, 66, 67, 68, 69, 70, 71, 72, 73, 74, 75, 76, 77, 78] (by decide +kernel) (by decide +kernel)
set_option maxRecDepth 20000 in
theorem gX7_cores_X7_adds : GoodIn wsX7_cores (wsV RX7 135 RX7 yX7_adds wsX7_adds) := goodIn_app (goodIn_of _ (by decide +kernel)) ggX7_cores_X7_adds
theorem dX7_cores_0 : decode cX7_cores 0 = .ok (.aload_n 0, 1) := by decide +kernel
theorem dX7_cores_1 : decode cX7_cores 1 = .ok (.iconst 0, 1) := by decide +kernel
theorem dX7_cores_2 : decode cX7_cores 2 = .ok (.putfield 93, 3) := by decide +kernel
theorem dX7_cores_5 : decode cX7_cores 5 = .ok (.aload_n 0, 1) := by decide +kernel
theorem dX7_cores_6 : decode cX7_cores 6 = .ok (.iload_n 1, 1) := by decide +kernel
theorem dX7_cores_7 : decode cX7_cores 7 = .ok (.iload_n 2, 1) := by decide +kernel
theorem dX7_cores_8 : decode cX7_cores 8 = .ok (.invokestatic 124, 3) := by decide +kernel
theorem dX7_cores_11 : decode cX7_cores 11 = .ok (.iconst 1, 1) := by decide +kernel
theorem dX7_cores_12 : decode cX7_cores 12 = .ok (.invokevirtual 100, 3) := by decide +kernel
theorem dX7_cores_15 : decode cX7_cores 15 = .ok (.ifCond .ne 22, 3) := by decide +kernel
theorem dX7_cores_18 : decode cX7_cores 18 = .ok (.aload_n 0, 1) := by decide +kernel
theorem dX7_cores_19 : decode cX7_cores 19 = .ok (.getfield 132, 3) := by decide +kernel
theorem dX7_cores_22 : decode cX7_cores 22 = .ok (.bipush 12, 2) := by decide +kernel
theorem dX7_cores_24 : decode cX7_cores 24 = .ok (.if_icmp .eq 13, 3) := by decide +kernel
theorem dX7_cores_27 : decode cX7_cores 27 = .ok (.aload_n 0, 1) := by decide +kernel
theorem dX7_cores_28 : decode cX7_cores 28 = .ok (.iload_n 1, 1) := by decide +kernel
theorem dX7_cores_29 : decode cX7_cores 29 = .ok (.iload_n 2, 1) := by decide +kernel
theorem dX7_cores_30 : decode cX7_cores 30 = .ok (.invokevirtual 128, 3) := by decide +kernel
theorem dX7_cores_33 : decode cX7_cores 33 = .ok (.iconst (-1), 1) := by decide +kernel
theorem dX7_cores_34 : decode cX7_cores 34 = .ok (.if_icmp .ne 16, 3) := by decide +kernel
theorem dX7_cores_37 : decode cX7_cores 37 = .ok (.aload_n 0, 1) := by decide +kernel
theorem dX7_cores_38 : decode cX7_cores 38 = .ok (.getfield 93, 3) := by decide +kernel
theorem dX7_cores_41 : decode cX7_cores 41 = .ok (.ifCond .eq 7, 3) := by decide +kernel
theorem dX7_cores_44 : decode cX7_cores 44 = .ok (.iconst 0, 1) := by decide +kernel
theorem dX7_cores_45 : decode cX7_cores 45 = .ok (.goto 4, 3) := by decide +kernel
theorem dX7_cores_48 : decode cX7_cores 48 = .ok (.iconst (-1), 1) := by decide +kernel
theorem dX7_cores_49 : decode cX7_cores 49 = .ok (.ireturn, 1) := by decide +kernel
theorem dX7_cores_50 : decode cX7_cores 50 = .ok (.iconst 0, 1) := by decide +kernel
theorem dX7_cores_51 : decode cX7_cores 51 = .ok (.istore_n 3, 1) := by decide +kernel
theorem dX7_cores_52 : decode cX7_cores 52 = .ok (.iload_n 3, 1) := by decide +kernel
theorem dX7_cores_53 : decode cX7_cores 53 = .ok (.aload_n 0, 1) := by decide +kernel
theorem dX7_cores_54 : decode cX7_cores 54 = .ok (.getfield 104, 3) := by decide +kernel
theorem dX7_cores_57 : decode cX7_cores 57 = .ok (.if_icmp .ge 24, 3) := by decide +kernel
theorem dX7_cores_60 : decode cX7_cores 60 = .ok (.aload_n 0, 1) := by decide +kernel
theorem dX7_cores_61 : decode cX7_cores 61 = .ok (.getfield 19, 3) := by decide +kernel
theorem dX7_cores_64 : decode cX7_cores 64 = .ok (.iload_n 3, 1) := by decide +kernel
theorem dX7_cores_65 : decode cX7_cores 65 = .ok (.dup2, 1) := by decide +kernel
theorem dX7_cores_66 : decode cX7_cores 66 = .ok (.iaload, 1) := by decide +kernel
theorem dX7_cores_67 : decode cX7_cores 67 = .ok (.aload_n 0, 1) := by decide +kernel
theorem dX7_cores_68 : decode cX7_cores 68 = .ok (.getfield 25, 3) := by decide +kernel
theorem dX7_cores_71 : decode cX7_cores 71 = .ok (.iload_n 3, 1) := by decide +kernel
theorem dX7_cores_72 : decode cX7_cores 72 = .ok (.iaload, 1) := by decide +kernel
theorem dX7_cores_73 : decode cX7_cores 73 = .ok (.isub, 1) := by decide +kernel
theorem dX7_cores_74 : decode cX7_cores 74 = .ok (.iastore, 1) := by decide +kernel
theorem dX7_cores_75 : decode cX7_cores 75 = .ok (.iinc 3 1, 3) := by decide +kernel
theorem dX7_cores_78 : decode cX7_cores 78 = .ok (.goto (-26), 3) := by decide +kernel
theorem dX7_cores_81 : decode cX7_cores 81 = .ok (.aload_n 0, 1) := by decide +kernel
theorem dX7_cores_82 : decode cX7_cores 82 = .ok (.iconst 0, 1) := by decide +kernel
theorem dX7_cores_83 : decode cX7_cores 83 = .ok (.bipush 40, 2) := by decide +kernel
theorem dX7_cores_85 : decode cX7_cores 85 = .ok (.aload_n 0, 1) := by decide +kernel
theorem dX7_cores_86 : decode cX7_cores 86 = .ok (.getfield 114, 3) := by decide +kernel
theorem dX7_cores_89 : decode cX7_cores 89 = .ok (.aload_n 0, 1) := by decide +kernel
theorem dX7_cores_90 : decode cX7_cores 90 = .ok (.getfield 117, 3) := by decide +kernel
theorem dX7_cores_93 : decode cX7_cores 93 = .ok (.invokevirtual 135, 3) := by decide +kernel
theorem dX7_cores_96 : decode cX7_cores 96 = .ok (.ireturn, 1) := by decide +kernel
set_option maxRecDepth 20000 in
theorem ggX7_lot_X7_in : GoodIn wsX7_lot wsX7_in := goodIn_r _ [6] (by decide +kernel) (by decide +kernel)
set_option maxRecDepth 20000 in
theorem gX7_lot_X7_in : GoodIn wsX7_lot (va_wsS RX7 96 yX7_in wsX7_in) := goodIn_app (goodIn_of _ (by decide +kernel)) ggX7_lot_X7_in
set_option maxRecDepth 20000 in
theorem ggX7_lot_X7_throwsIf : GoodIn wsX7_lot wsX7_throwsIf := goodIn_r _ [10, 1, 19, 20, 21, 22, 23, 24, 25, 26, 27, 28, 29, 30, 31, 32, 33, 34, 35, 36, 37, 38, 39, 40, 41, 42, 43, 44, 45, 46, 47, 48, 49, 50, 51, 52, 53, 54, 55, 56, 57, 58, 59, 60] (by decide +kernel) (by decide +kernel)
set_option maxRecDepth 20000 in
theorem gX7_lot_X7_throwsIf : GoodIn wsX7_lot (wsV RX7 100 RX7 yX7_throwsIf wsX7_throwsIf) := goodIn_app (goodIn_of _ (by decide +kernel)) ggX7_lot_X7_throwsIf
set_option maxRecDepth 20000 in
theorem ggX7_lot_X7_adds : GoodIn wsX7_lot wsX7_adds := goodIn_r _ [14, 15, 2, 16, 17, 18, 19, 20, 21, 22, 23, 24, 25, 26, 27, 28, 29, 30, 31, 32, 33, 34, 35, 36, 37, 38, 39, 40, 41, 42, 43, 44, 45, 46, 47, 48, 49, 50, 51, 52, 53, 54, 55, 56, 57, 58, 59, 60] (by decide +kernel) (by decide +kernel)
set_option maxRecDepth 20000 in
theorem gX7_lot_X7_adds : GoodIn wsX7_lot (wsV RX7 135 RX7 yX7_adds wsX7_adds) := goodIn_app (goodIn_of _ (by decide +kernel)) ggX7_lot_X7_adds
theorem dX7_lot_0 : decode cX7_lot 0 = .ok (.aload_n 0, 1) := by decide +kernel
theorem dX7_lot_1 : decode cX7_lot 1 = .ok (.iconst 0, 1) := by decide +kernel
theorem dX7_lot_2 : decode cX7_lot 2 = .ok (.putfield 93, 3) := by decide +kernel
theorem dX7_lot_5 : decode cX7_lot 5 = .ok (.aload_n 0, 1) := by decide +kernel
theorem dX7_lot_6 : decode cX7_lot 6 = .ok (.iload_n 1, 1) := by decide +kernel
theorem dX7_lot_7 : decode cX7_lot 7 = .ok (.iconst 1, 1) := by decide +kernel
theorem dX7_lot_8 : decode cX7_lot 8 = .ok (.iconst 2, 1) := by decide +kernel
theorem dX7_lot_9 : decode cX7_lot 9 = .ok (.invokestatic 96, 3) := by decide +kernel
theorem dX7_lot_12 : decode cX7_lot 12 = .ok (.ifCond .eq 14, 3) := by decide +kernel
theorem dX7_lot_15 : decode cX7_lot 15 = .ok (.iload_n 2, 1) := by decide +kernel
theorem dX7_lot_16 : decode cX7_lot 16 = .ok (.iconst 0, 1) := by decide +kernel
theorem dX7_lot_17 : decode cX7_lot 17 = .ok (.sipush 10000, 3) := by decide +kernel
theorem dX7_lot_20 : decode cX7_lot 20 = .ok (.invokestatic 96, 3) := by decide +kernel
theorem dX7_lot_23 : decode cX7_lot 23 = .ok (.ifCond .ne 7, 3) := by decide +kernel
theorem dX7_lot_26 : decode cX7_lot 26 = .ok (.iconst 1, 1) := by decide +kernel
theorem dX7_lot_27 : decode cX7_lot 27 = .ok (.goto 4, 3) := by decide +kernel
theorem dX7_lot_30 : decode cX7_lot 30 = .ok (.iconst 0, 1) := by decide +kernel
theorem dX7_lot_31 : decode cX7_lot 31 = .ok (.iconst 1, 1) := by decide +kernel
theorem dX7_lot_32 : decode cX7_lot 32 = .ok (.invokevirtual 100, 3) := by decide +kernel
theorem dX7_lot_35 : decode cX7_lot 35 = .ok (.ifCond .ne 25, 3) := by decide +kernel
theorem dX7_lot_38 : decode cX7_lot 38 = .ok (.aload_n 0, 1) := by decide +kernel
theorem dX7_lot_39 : decode cX7_lot 39 = .ok (.aload_n 0, 1) := by decide +kernel
theorem dX7_lot_40 : decode cX7_lot 40 = .ok (.getfield 132, 3) := by decide +kernel
theorem dX7_lot_43 : decode cX7_lot 43 = .ok (.bipush 12, 2) := by decide +kernel
theorem dX7_lot_45 : decode cX7_lot 45 = .ok (.if_icmp .ne 7, 3) := by decide +kernel
theorem dX7_lot_48 : decode cX7_lot 48 = .ok (.iconst 1, 1) := by decide +kernel
theorem dX7_lot_49 : decode cX7_lot 49 = .ok (.goto 4, 3) := by decide +kernel
theorem dX7_lot_52 : decode cX7_lot 52 = .ok (.iconst 0, 1) := by decide +kernel
theorem dX7_lot_53 : decode cX7_lot 53 = .ok (.iconst 2, 1) := by decide +kernel
theorem dX7_lot_54 : decode cX7_lot 54 = .ok (.invokevirtual 100, 3) := by decide +kernel
theorem dX7_lot_57 : decode cX7_lot 57 = .ok (.ifCond .eq 5, 3) := by decide +kernel
theorem dX7_lot_60 : decode cX7_lot 60 = .ok (.iconst 0, 1) := by decide +kernel
theorem dX7_lot_61 : decode cX7_lot 61 = .ok (.ireturn, 1) := by decide +kernel
theorem dX7_lot_62 : decode cX7_lot 62 = .ok (.aload_n 0, 1) := by decide +kernel
theorem dX7_lot_63 : decode cX7_lot 63 = .ok (.iload_n 1, 1) := by decide +kernel
theorem dX7_lot_64 : decode cX7_lot 64 = .ok (.iload_n 2, 1) := by decide +kernel
theorem dX7_lot_65 : decode cX7_lot 65 = .ok (.iconst (-1), 1) := by decide +kernel
theorem dX7_lot_66 : decode cX7_lot 66 = .ok (.iconst (-1), 1) := by decide +kernel
theorem dX7_lot_67 : decode cX7_lot 67 = .ok (.invokevirtual 135, 3) := by decide +kernel
theorem dX7_lot_70 : decode cX7_lot 70 = .ok (.ireturn, 1) := by decide +kernel
theorem dX7_uses_0 : decode cX7_uses 0 = .ok (.aload_n 0, 1) := by decide +kernel
theorem dX7_uses_1 : decode cX7_uses 1 = .ok (.getfield 31, 3) := by decide +kernel
theorem dX7_uses_4 : decode cX7_uses 4 = .ok (.iload_n 1, 1) := by decide +kernel
theorem dX7_uses_5 : decode cX7_uses 5 = .ok (.dup2, 1) := by decide +kernel
theorem dX7_uses_6 : decode cX7_uses 6 = .ok (.iaload, 1) := by decide +kernel
theorem dX7_uses_7 : decode cX7_uses 7 = .ok (.iload_n 2, 1) := by decide +kernel
theorem dX7_uses_8 : decode cX7_uses 8 = .ok (.isub, 1) := by decide +kernel
theorem dX7_uses_9 : decode cX7_uses 9 = .ok (.iastore, 1) := by decide +kernel
theorem dX7_uses_10 : decode cX7_uses 10 = .ok (.aload_n 0, 1) := by decide +kernel
theorem dX7_uses_11 : decode cX7_uses 11 = .ok (.getfield 34, 3) := by decide +kernel
theorem dX7_uses_14 : decode cX7_uses 14 = .ok (.iload_n 1, 1) := by decide +kernel
theorem dX7_uses_15 : decode cX7_uses 15 = .ok (.dup2, 1) := by decide +kernel
theorem dX7_uses_16 : decode cX7_uses 16 = .ok (.iaload, 1) := by decide +kernel
theorem dX7_uses_17 : decode cX7_uses 17 = .ok (.iload_n 2, 1) := by decide +kernel
theorem dX7_uses_18 : decode cX7_uses 18 = .ok (.iadd, 1) := by decide +kernel
theorem dX7_uses_19 : decode cX7_uses 19 = .ok (.iastore, 1) := by decide +kernel
theorem dX7_uses_20 : decode cX7_uses 20 = .ok (.return_, 1) := by decide +kernel
set_option maxRecDepth 20000 in
theorem ggX7_make_X7_noLot : GoodIn wsX7_make wsX7_noLot := goodIn_r _ [11, 12, 13, 14, 10, 15, 25, 26, 27, 28, 29, 30, 31, 32, 33, 34, 35, 36, 37, 38, 39, 40, 41, 42, 43, 44, 45, 46, 47, 48, 49, 50, 51, 52, 53, 54, 55, 56, 57, 58, 59, 60, 61, 62, 63, 64, 65, 66] (by decide +kernel) (by decide +kernel)
set_option maxRecDepth 20000 in
theorem gX7_make_X7_noLot : GoodIn wsX7_make (wsV RX7 139 RX7 yX7_noLot wsX7_noLot) := goodIn_app (goodIn_of _ (by decide +kernel)) ggX7_make_X7_noLot
set_option maxRecDepth 20000 in
theorem ggX7_make_X7_throwsIf : GoodIn wsX7_make wsX7_throwsIf := goodIn_r _ [19, 1, 25, 26, 27, 28, 29, 30, 31, 32, 33, 34, 35, 36, 37, 38, 39, 40, 41, 42, 43, 44, 45, 46, 47, 48, 49, 50, 51, 52, 53, 54, 55, 56, 57, 58, 59, 60, 61, 62, 63, 64, 65, 66] (by decide +kernel) (by decide +kernel)
set_option maxRecDepth 20000 in
theorem gX7_make_X7_throwsIf : GoodIn wsX7_make (wsV RX7 100 RX7 yX7_throwsIf wsX7_throwsIf) := goodIn_app (goodIn_of _ (by decide +kernel)) ggX7_make_X7_throwsIf
set_option maxRecDepth 20000 in
theorem ggX7_make_X7_in : GoodIn wsX7_make wsX7_in := goodIn_r _ [15] (by decide +kernel) (by decide +kernel)
set_option maxRecDepth 20000 in
theorem gX7_make_X7_in : GoodIn wsX7_make (va_wsS RX7 96 yX7_in wsX7_in) := goodIn_app (goodIn_of _ (by decide +kernel)) ggX7_make_X7_in
set_option maxRecDepth 20000 in
theorem ggX7_make_X7_uses : GoodIn wsX7_make wsX7_uses := goodIn_r _ [23, 3, 24, 25, 26, 27, 28, 29, 30, 31, 32, 33, 34, 35, 36, 37, 38, 39, 40, 41, 42, 43, 44, 45, 46, 47, 48, 49, 50, 51, 52, 53, 54, 55, 56, 57, 58, 59, 60, 61, 62, 63, 64, 65, 66] (by decide +kernel) (by decide +kernel)
set_option maxRecDepth 20000 in
theorem gX7_make_X7_uses : GoodIn wsX7_make (wsV RX7 145 RX7 yX7_uses wsX7_uses) := goodIn_app (goodIn_of _ (by decide +kernel)) ggX7_make_X7_uses
theorem dX7_make_0 : decode cX7_make 0 = .ok (.aload_n 0, 1) := by decide +kernel
theorem dX7_make_1 : decode cX7_make 1 = .ok (.iconst 0, 1) := by decide +kernel
theorem dX7_make_2 : decode cX7_make 2 = .ok (.putfield 93, 3) := by decide +kernel
theorem dX7_make_5 : decode cX7_make 5 = .ok (.aload_n 0, 1) := by decide +kernel
theorem dX7_make_6 : decode cX7_make 6 = .ok (.aload_n 0, 1) := by decide +kernel
theorem dX7_make_7 : decode cX7_make 7 = .ok (.iload_n 1, 1) := by decide +kernel
theorem dX7_make_8 : decode cX7_make 8 = .ok (.invokevirtual 139, 3) := by decide +kernel
theorem dX7_make_11 : decode cX7_make 11 = .ok (.ifCond .ne 19, 3) := by decide +kernel
theorem dX7_make_14 : decode cX7_make 14 = .ok (.aload_n 0, 1) := by decide +kernel
theorem dX7_make_15 : decode cX7_make 15 = .ok (.iload_n 2, 1) := by decide +kernel
theorem dX7_make_16 : decode cX7_make 16 = .ok (.invokevirtual 139, 3) := by decide +kernel
theorem dX7_make_19 : decode cX7_make 19 = .ok (.ifCond .ne 11, 3) := by decide +kernel
theorem dX7_make_22 : decode cX7_make 22 = .ok (.aload_n 0, 1) := by decide +kernel
theorem dX7_make_23 : decode cX7_make 23 = .ok (.iload_n 3, 1) := by decide +kernel
theorem dX7_make_24 : decode cX7_make 24 = .ok (.invokevirtual 139, 3) := by decide +kernel
theorem dX7_make_27 : decode cX7_make 27 = .ok (.ifCond .eq 7, 3) := by decide +kernel
theorem dX7_make_30 : decode cX7_make 30 = .ok (.iconst 1, 1) := by decide +kernel
theorem dX7_make_31 : decode cX7_make 31 = .ok (.goto 4, 3) := by decide +kernel
theorem dX7_make_34 : decode cX7_make 34 = .ok (.iconst 0, 1) := by decide +kernel
theorem dX7_make_35 : decode cX7_make 35 = .ok (.iconst 1, 1) := by decide +kernel
theorem dX7_make_36 : decode cX7_make 36 = .ok (.invokevirtual 100, 3) := by decide +kernel
theorem dX7_make_39 : decode cX7_make 39 = .ok (.ifCond .ne 57, 3) := by decide +kernel
theorem dX7_make_42 : decode cX7_make 42 = .ok (.aload_n 0, 1) := by decide +kernel
theorem dX7_make_43 : decode cX7_make 43 = .ok (.iload 4, 2) := by decide +kernel
theorem dX7_make_45 : decode cX7_make 45 = .ok (.iconst 1, 1) := by decide +kernel
theorem dX7_make_46 : decode cX7_make 46 = .ok (.sipush 1000, 3) := by decide +kernel
theorem dX7_make_49 : decode cX7_make 49 = .ok (.invokestatic 96, 3) := by decide +kernel
theorem dX7_make_52 : decode cX7_make 52 = .ok (.ifCond .eq 32, 3) := by decide +kernel
theorem dX7_make_55 : decode cX7_make 55 = .ok (.aload_n 0, 1) := by decide +kernel
theorem dX7_make_56 : decode cX7_make 56 = .ok (.getfield 28, 3) := by decide +kernel
theorem dX7_make_59 : decode cX7_make 59 = .ok (.iload_n 1, 1) := by decide +kernel
theorem dX7_make_60 : decode cX7_make 60 = .ok (.iaload, 1) := by decide +kernel
theorem dX7_make_61 : decode cX7_make 61 = .ok (.ifCond .ne 23, 3) := by decide +kernel
theorem dX7_make_64 : decode cX7_make 64 = .ok (.aload_n 0, 1) := by decide +kernel
theorem dX7_make_65 : decode cX7_make 65 = .ok (.getfield 28, 3) := by decide +kernel
theorem dX7_make_68 : decode cX7_make 68 = .ok (.iload_n 2, 1) := by decide +kernel
theorem dX7_make_69 : decode cX7_make 69 = .ok (.iaload, 1) := by decide +kernel
theorem dX7_make_70 : decode cX7_make 70 = .ok (.iconst 1, 1) := by decide +kernel
theorem dX7_make_71 : decode cX7_make 71 = .ok (.if_icmp .ne 13, 3) := by decide +kernel
theorem dX7_make_74 : decode cX7_make 74 = .ok (.aload_n 0, 1) := by decide +kernel
theorem dX7_make_75 : decode cX7_make 75 = .ok (.getfield 28, 3) := by decide +kernel
theorem dX7_make_78 : decode cX7_make 78 = .ok (.iload_n 3, 1) := by decide +kernel
theorem dX7_make_79 : decode cX7_make 79 = .ok (.iaload, 1) := by decide +kernel
theorem dX7_make_80 : decode cX7_make 80 = .ok (.iconst 2, 1) := by decide +kernel
theorem dX7_make_81 : decode cX7_make 81 = .ok (.if_icmp .eq 7, 3) := by decide +kernel
theorem dX7_make_84 : decode cX7_make 84 = .ok (.iconst 1, 1) := by decide +kernel
theorem dX7_make_85 : decode cX7_make 85 = .ok (.goto 4, 3) := by decide +kernel
theorem dX7_make_88 : decode cX7_make 88 = .ok (.iconst 0, 1) := by decide +kernel
theorem dX7_make_89 : decode cX7_make 89 = .ok (.iconst 2, 1) := by decide +kernel
theorem dX7_make_90 : decode cX7_make 90 = .ok (.invokevirtual 100, 3) := by decide +kernel
theorem dX7_make_93 : decode cX7_make 93 = .ok (.ifCond .eq 5, 3) := by decide +kernel
theorem dX7_make_96 : decode cX7_make 96 = .ok (.iconst 0, 1) := by decide +kernel
theorem dX7_make_97 : decode cX7_make 97 = .ok (.ireturn, 1) := by decide +kernel
theorem dX7_make_98 : decode cX7_make 98 = .ok (.aload_n 0, 1) := by decide +kernel
theorem dX7_make_99 : decode cX7_make 99 = .ok (.getfield 31, 3) := by decide +kernel
theorem dX7_make_102 : decode cX7_make 102 = .ok (.iload_n 1, 1) := by decide +kernel
theorem dX7_make_103 : decode cX7_make 103 = .ok (.iaload, 1) := by decide +kernel
theorem dX7_make_104 : decode cX7_make 104 = .ok (.iload 4, 2) := by decide +kernel
theorem dX7_make_106 : decode cX7_make 106 = .ok (.if_icmp .lt 34, 3) := by decide +kernel
theorem dX7_make_109 : decode cX7_make 109 = .ok (.aload_n 0, 1) := by decide +kernel
theorem dX7_make_110 : decode cX7_make 110 = .ok (.getfield 31, 3) := by decide +kernel
theorem dX7_make_113 : decode cX7_make 113 = .ok (.iload_n 2, 1) := by decide +kernel
theorem dX7_make_114 : decode cX7_make 114 = .ok (.iaload, 1) := by decide +kernel
theorem dX7_make_115 : decode cX7_make 115 = .ok (.iload 4, 2) := by decide +kernel
theorem dX7_make_117 : decode cX7_make 117 = .ok (.if_icmp .lt 23, 3) := by decide +kernel
theorem dX7_make_120 : decode cX7_make 120 = .ok (.aload_n 0, 1) := by decide +kernel
theorem dX7_make_121 : decode cX7_make 121 = .ok (.getfield 31, 3) := by decide +kernel
theorem dX7_make_124 : decode cX7_make 124 = .ok (.iload_n 3, 1) := by decide +kernel
theorem dX7_make_125 : decode cX7_make 125 = .ok (.iaload, 1) := by decide +kernel
theorem dX7_make_126 : decode cX7_make 126 = .ok (.iload 4, 2) := by decide +kernel
theorem dX7_make_128 : decode cX7_make 128 = .ok (.if_icmp .lt 12, 3) := by decide +kernel
theorem dX7_make_131 : decode cX7_make 131 = .ok (.aload_n 0, 1) := by decide +kernel
theorem dX7_make_132 : decode cX7_make 132 = .ok (.getfield 142, 3) := by decide +kernel
theorem dX7_make_135 : decode cX7_make 135 = .ok (.bipush 60, 2) := by decide +kernel
theorem dX7_make_137 : decode cX7_make 137 = .ok (.if_icmp .ne 5, 3) := by decide +kernel
theorem dX7_make_140 : decode cX7_make 140 = .ok (.iconst (-1), 1) := by decide +kernel
theorem dX7_make_141 : decode cX7_make 141 = .ok (.ireturn, 1) := by decide +kernel
theorem dX7_make_142 : decode cX7_make 142 = .ok (.aload_n 0, 1) := by decide +kernel
theorem dX7_make_143 : decode cX7_make 143 = .ok (.iload_n 1, 1) := by decide +kernel
theorem dX7_make_144 : decode cX7_make 144 = .ok (.iload 4, 2) := by decide +kernel
theorem dX7_make_146 : decode cX7_make 146 = .ok (.invokevirtual 145, 3) := by decide +kernel
theorem dX7_make_149 : decode cX7_make 149 = .ok (.aload_n 0, 1) := by decide +kernel
theorem dX7_make_150 : decode cX7_make 150 = .ok (.iload_n 2, 1) := by decide +kernel
theorem dX7_make_151 : decode cX7_make 151 = .ok (.iload 4, 2) := by decide +kernel
theorem dX7_make_153 : decode cX7_make 153 = .ok (.invokevirtual 145, 3) := by decide +kernel
theorem dX7_make_156 : decode cX7_make 156 = .ok (.aload_n 0, 1) := by decide +kernel
theorem dX7_make_157 : decode cX7_make 157 = .ok (.iload_n 3, 1) := by decide +kernel
theorem dX7_make_158 : decode cX7_make 158 = .ok (.iload 4, 2) := by decide +kernel
theorem dX7_make_160 : decode cX7_make 160 = .ok (.invokevirtual 145, 3) := by decide +kernel
theorem dX7_make_163 : decode cX7_make 163 = .ok (.aload_n 0, 1) := by decide +kernel
theorem dX7_make_164 : decode cX7_make 164 = .ok (.dup, 1) := by decide +kernel
theorem dX7_make_165 : decode cX7_make 165 = .ok (.getfield 149, 3) := by decide +kernel
theorem dX7_make_168 : decode cX7_make 168 = .ok (.iload 4, 2) := by decide +kernel
theorem dX7_make_170 : decode cX7_make 170 = .ok (.iadd, 1) := by decide +kernel
theorem dX7_make_171 : decode cX7_make 171 = .ok (.putfield 149, 3) := by decide +kernel
theorem dX7_make_174 : decode cX7_make 174 = .ok (.aload_n 0, 1) := by decide +kernel
theorem dX7_make_175 : decode cX7_make 175 = .ok (.getfield 43, 3) := by decide +kernel
theorem dX7_make_178 : decode cX7_make 178 = .ok (.aload_n 0, 1) := by decide +kernel
theorem dX7_make_179 : decode cX7_make 179 = .ok (.getfield 142, 3) := by decide +kernel
theorem dX7_make_182 : decode cX7_make 182 = .ok (.iconst 1, 1) := by decide +kernel
theorem dX7_make_183 : decode cX7_make 183 = .ok (.iload_n 1, 1) := by decide +kernel
theorem dX7_make_184 : decode cX7_make 184 = .ok (.ishl, 1) := by decide +kernel
theorem dX7_make_185 : decode cX7_make 185 = .ok (.iconst 1, 1) := by decide +kernel
theorem dX7_make_186 : decode cX7_make 186 = .ok (.iload_n 2, 1) := by decide +kernel
theorem dX7_make_187 : decode cX7_make 187 = .ok (.ishl, 1) := by decide +kernel
theorem dX7_make_188 : decode cX7_make 188 = .ok (.ior, 1) := by decide +kernel
theorem dX7_make_189 : decode cX7_make 189 = .ok (.iconst 1, 1) := by decide +kernel
theorem dX7_make_190 : decode cX7_make 190 = .ok (.iload_n 3, 1) := by decide +kernel
theorem dX7_make_191 : decode cX7_make 191 = .ok (.ishl, 1) := by decide +kernel
theorem dX7_make_192 : decode cX7_make 192 = .ok (.ior, 1) := by decide +kernel
theorem dX7_make_193 : decode cX7_make 193 = .ok (.iastore, 1) := by decide +kernel
theorem dX7_make_194 : decode cX7_make 194 = .ok (.aload_n 0, 1) := by decide +kernel
theorem dX7_make_195 : decode cX7_make 195 = .ok (.dup, 1) := by decide +kernel
theorem dX7_make_196 : decode cX7_make 196 = .ok (.getfield 142, 3) := by decide +kernel
theorem dX7_make_199 : decode cX7_make 199 = .ok (.iconst 1, 1) := by decide +kernel
theorem dX7_make_200 : decode cX7_make 200 = .ok (.iadd, 1) := by decide +kernel
theorem dX7_make_201 : decode cX7_make 201 = .ok (.putfield 142, 3) := by decide +kernel
theorem dX7_make_204 : decode cX7_make 204 = .ok (.aload_n 0, 1) := by decide +kernel
theorem dX7_make_205 : decode cX7_make 205 = .ok (.getfield 142, 3) := by decide +kernel
theorem dX7_make_208 : decode cX7_make 208 = .ok (.iconst 1, 1) := by decide +kernel
theorem dX7_make_209 : decode cX7_make 209 = .ok (.isub, 1) := by decide +kernel
theorem dX7_make_210 : decode cX7_make 210 = .ok (.ireturn, 1) := by decide +kernel
set_option maxRecDepth 20000 in
theorem ggX7_trial_X7_in : GoodIn wsX7_trial wsX7_in := goodIn_r _ [12] (by decide +kernel) (by decide +kernel)
set_option maxRecDepth 20000 in
theorem gX7_trial_X7_in : GoodIn wsX7_trial (va_wsS RX7 96 yX7_in wsX7_in) := goodIn_app (goodIn_of _ (by decide +kernel)) ggX7_trial_X7_in
set_option maxRecDepth 20000 in
theorem ggX7_trial_X7_throwsIf : GoodIn wsX7_trial wsX7_throwsIf := goodIn_r _ [16, 1, 17, 18, 19, 20, 21, 22, 23, 24, 25, 26, 27, 28, 29, 30, 31, 32, 33, 34, 35, 36, 37, 38, 39, 40, 41, 42, 43, 44, 45, 46, 47, 48, 49, 50, 51, 52, 53, 54, 55, 56, 57, 58] (by decide +kernel) (by decide +kernel)
set_option maxRecDepth 20000 in
theorem gX7_trial_X7_throwsIf : GoodIn wsX7_trial (wsV RX7 100 RX7 yX7_throwsIf wsX7_throwsIf) := goodIn_app (goodIn_of _ (by decide +kernel)) ggX7_trial_X7_throwsIf
theorem dX7_trial_0 : decode cX7_trial 0 = .ok (.aload_n 0, 1) := by decide +kernel
theorem dX7_trial_1 : decode cX7_trial 1 = .ok (.iconst 0, 1) := by decide +kernel
theorem dX7_trial_2 : decode cX7_trial 2 = .ok (.putfield 93, 3) := by decide +kernel
theorem dX7_trial_5 : decode cX7_trial 5 = .ok (.aload_n 0, 1) := by decide +kernel
theorem dX7_trial_6 : decode cX7_trial 6 = .ok (.iload_n 1, 1) := by decide +kernel
theorem dX7_trial_7 : decode cX7_trial 7 = .ok (.iconst 0, 1) := by decide +kernel
theorem dX7_trial_8 : decode cX7_trial 8 = .ok (.aload_n 0, 1) := by decide +kernel
theorem dX7_trial_9 : decode cX7_trial 9 = .ok (.getfield 142, 3) := by decide +kernel
theorem dX7_trial_12 : decode cX7_trial 12 = .ok (.iconst 1, 1) := by decide +kernel
theorem dX7_trial_13 : decode cX7_trial 13 = .ok (.isub, 1) := by decide +kernel
theorem dX7_trial_14 : decode cX7_trial 14 = .ok (.invokestatic 96, 3) := by decide +kernel
theorem dX7_trial_17 : decode cX7_trial 17 = .ok (.ifCond .ne 7, 3) := by decide +kernel
theorem dX7_trial_20 : decode cX7_trial 20 = .ok (.iconst 1, 1) := by decide +kernel
theorem dX7_trial_21 : decode cX7_trial 21 = .ok (.goto 4, 3) := by decide +kernel
theorem dX7_trial_24 : decode cX7_trial 24 = .ok (.iconst 0, 1) := by decide +kernel
theorem dX7_trial_25 : decode cX7_trial 25 = .ok (.iconst 1, 1) := by decide +kernel
theorem dX7_trial_26 : decode cX7_trial 26 = .ok (.invokevirtual 100, 3) := by decide +kernel
theorem dX7_trial_29 : decode cX7_trial 29 = .ok (.ifCond .eq 5, 3) := by decide +kernel
theorem dX7_trial_32 : decode cX7_trial 32 = .ok (.iconst 0, 1) := by decide +kernel
theorem dX7_trial_33 : decode cX7_trial 33 = .ok (.ireturn, 1) := by decide +kernel
theorem dX7_trial_34 : decode cX7_trial 34 = .ok (.aload_n 0, 1) := by decide +kernel
theorem dX7_trial_35 : decode cX7_trial 35 = .ok (.getfield 152, 3) := by decide +kernel
theorem dX7_trial_38 : decode cX7_trial 38 = .ok (.bipush 100, 2) := by decide +kernel
theorem dX7_trial_40 : decode cX7_trial 40 = .ok (.if_icmp .ne 5, 3) := by decide +kernel
theorem dX7_trial_43 : decode cX7_trial 43 = .ok (.iconst (-1), 1) := by decide +kernel
theorem dX7_trial_44 : decode cX7_trial 44 = .ok (.ireturn, 1) := by decide +kernel
theorem dX7_trial_45 : decode cX7_trial 45 = .ok (.aload_n 0, 1) := by decide +kernel
theorem dX7_trial_46 : decode cX7_trial 46 = .ok (.getfield 46, 3) := by decide +kernel
theorem dX7_trial_49 : decode cX7_trial 49 = .ok (.aload_n 0, 1) := by decide +kernel
theorem dX7_trial_50 : decode cX7_trial 50 = .ok (.getfield 152, 3) := by decide +kernel
theorem dX7_trial_53 : decode cX7_trial 53 = .ok (.iload_n 1, 1) := by decide +kernel
theorem dX7_trial_54 : decode cX7_trial 54 = .ok (.iastore, 1) := by decide +kernel
theorem dX7_trial_55 : decode cX7_trial 55 = .ok (.aload_n 0, 1) := by decide +kernel
theorem dX7_trial_56 : decode cX7_trial 56 = .ok (.getfield 49, 3) := by decide +kernel
theorem dX7_trial_59 : decode cX7_trial 59 = .ok (.aload_n 0, 1) := by decide +kernel
theorem dX7_trial_60 : decode cX7_trial 60 = .ok (.getfield 152, 3) := by decide +kernel
theorem dX7_trial_63 : decode cX7_trial 63 = .ok (.iload_n 2, 1) := by decide +kernel
theorem dX7_trial_64 : decode cX7_trial 64 = .ok (.bastore, 1) := by decide +kernel
theorem dX7_trial_65 : decode cX7_trial 65 = .ok (.aload_n 0, 1) := by decide +kernel
theorem dX7_trial_66 : decode cX7_trial 66 = .ok (.getfield 53, 3) := by decide +kernel
theorem dX7_trial_69 : decode cX7_trial 69 = .ok (.aload_n 0, 1) := by decide +kernel
theorem dX7_trial_70 : decode cX7_trial 70 = .ok (.getfield 152, 3) := by decide +kernel
theorem dX7_trial_73 : decode cX7_trial 73 = .ok (.aload_n 0, 1) := by decide +kernel
theorem dX7_trial_74 : decode cX7_trial 74 = .ok (.getfield 155, 3) := by decide +kernel
theorem dX7_trial_77 : decode cX7_trial 77 = .ok (.iastore, 1) := by decide +kernel
theorem dX7_trial_78 : decode cX7_trial 78 = .ok (.aload_n 0, 1) := by decide +kernel
theorem dX7_trial_79 : decode cX7_trial 79 = .ok (.getfield 56, 3) := by decide +kernel
theorem dX7_trial_82 : decode cX7_trial 82 = .ok (.aload_n 0, 1) := by decide +kernel
theorem dX7_trial_83 : decode cX7_trial 83 = .ok (.getfield 152, 3) := by decide +kernel
theorem dX7_trial_86 : decode cX7_trial 86 = .ok (.iconst (-1), 1) := by decide +kernel
theorem dX7_trial_87 : decode cX7_trial 87 = .ok (.iastore, 1) := by decide +kernel
theorem dX7_trial_88 : decode cX7_trial 88 = .ok (.aload_n 0, 1) := by decide +kernel
theorem dX7_trial_89 : decode cX7_trial 89 = .ok (.dup, 1) := by decide +kernel
theorem dX7_trial_90 : decode cX7_trial 90 = .ok (.getfield 152, 3) := by decide +kernel
theorem dX7_trial_93 : decode cX7_trial 93 = .ok (.iconst 1, 1) := by decide +kernel
theorem dX7_trial_94 : decode cX7_trial 94 = .ok (.iadd, 1) := by decide +kernel
theorem dX7_trial_95 : decode cX7_trial 95 = .ok (.putfield 152, 3) := by decide +kernel
theorem dX7_trial_98 : decode cX7_trial 98 = .ok (.aload_n 0, 1) := by decide +kernel
theorem dX7_trial_99 : decode cX7_trial 99 = .ok (.getfield 152, 3) := by decide +kernel
theorem dX7_trial_102 : decode cX7_trial 102 = .ok (.iconst 1, 1) := by decide +kernel
theorem dX7_trial_103 : decode cX7_trial 103 = .ok (.isub, 1) := by decide +kernel
theorem dX7_trial_104 : decode cX7_trial 104 = .ok (.ireturn, 1) := by decide +kernel
set_option maxRecDepth 20000 in
theorem ggX7_undo_X7_in : GoodIn wsX7_undo wsX7_in := goodIn_r _ [8] (by decide +kernel) (by decide +kernel)
set_option maxRecDepth 20000 in
theorem gX7_undo_X7_in : GoodIn wsX7_undo (va_wsS RX7 96 yX7_in wsX7_in) := goodIn_app (goodIn_of _ (by decide +kernel)) ggX7_undo_X7_in
set_option maxRecDepth 20000 in
theorem ggX7_undo_X7_throwsIf : GoodIn wsX7_undo wsX7_throwsIf := goodIn_r _ [12, 1, 13, 14, 15, 16, 17, 18, 19, 20, 21, 22, 23, 24, 25, 26, 27, 28, 29, 30, 31, 32, 33, 34, 35, 36, 37, 38, 39, 40, 41, 42, 43, 44, 45, 46, 47, 48, 49, 50, 51, 52, 53, 54] (by decide +kernel) (by decide +kernel)
set_option maxRecDepth 20000 in
theorem gX7_undo_X7_throwsIf : GoodIn wsX7_undo (wsV RX7 100 RX7 yX7_throwsIf wsX7_throwsIf) := goodIn_app (goodIn_of _ (by decide +kernel)) ggX7_undo_X7_throwsIf
theorem dX7_undo_0 : decode cX7_undo 0 = .ok (.aload_n 0, 1) := by decide +kernel
theorem dX7_undo_1 : decode cX7_undo 1 = .ok (.iconst 0, 1) := by decide +kernel
theorem dX7_undo_2 : decode cX7_undo 2 = .ok (.putfield 93, 3) := by decide +kernel
theorem dX7_undo_5 : decode cX7_undo 5 = .ok (.aload_n 0, 1) := by decide +kernel
theorem dX7_undo_6 : decode cX7_undo 6 = .ok (.iload_n 1, 1) := by decide +kernel
theorem dX7_undo_7 : decode cX7_undo 7 = .ok (.iconst 0, 1) := by decide +kernel
theorem dX7_undo_8 : decode cX7_undo 8 = .ok (.aload_n 0, 1) := by decide +kernel
theorem dX7_undo_9 : decode cX7_undo 9 = .ok (.getfield 152, 3) := by decide +kernel
theorem dX7_undo_12 : decode cX7_undo 12 = .ok (.iconst 1, 1) := by decide +kernel
theorem dX7_undo_13 : decode cX7_undo 13 = .ok (.isub, 1) := by decide +kernel
theorem dX7_undo_14 : decode cX7_undo 14 = .ok (.invokestatic 96, 3) := by decide +kernel
theorem dX7_undo_17 : decode cX7_undo 17 = .ok (.ifCond .ne 7, 3) := by decide +kernel
theorem dX7_undo_20 : decode cX7_undo 20 = .ok (.iconst 1, 1) := by decide +kernel
theorem dX7_undo_21 : decode cX7_undo 21 = .ok (.goto 4, 3) := by decide +kernel
theorem dX7_undo_24 : decode cX7_undo 24 = .ok (.iconst 0, 1) := by decide +kernel
theorem dX7_undo_25 : decode cX7_undo 25 = .ok (.iconst 1, 1) := by decide +kernel
theorem dX7_undo_26 : decode cX7_undo 26 = .ok (.invokevirtual 100, 3) := by decide +kernel
theorem dX7_undo_29 : decode cX7_undo 29 = .ok (.ifCond .ne 12, 3) := by decide +kernel
theorem dX7_undo_32 : decode cX7_undo 32 = .ok (.aload_n 0, 1) := by decide +kernel
theorem dX7_undo_33 : decode cX7_undo 33 = .ok (.getfield 56, 3) := by decide +kernel
theorem dX7_undo_36 : decode cX7_undo 36 = .ok (.iload_n 1, 1) := by decide +kernel
theorem dX7_undo_37 : decode cX7_undo 37 = .ok (.iaload, 1) := by decide +kernel
theorem dX7_undo_38 : decode cX7_undo 38 = .ok (.ifCond .lt 5, 3) := by decide +kernel
theorem dX7_undo_41 : decode cX7_undo 41 = .ok (.iconst 0, 1) := by decide +kernel
theorem dX7_undo_42 : decode cX7_undo 42 = .ok (.ireturn, 1) := by decide +kernel
theorem dX7_undo_43 : decode cX7_undo 43 = .ok (.aload_n 0, 1) := by decide +kernel
theorem dX7_undo_44 : decode cX7_undo 44 = .ok (.getfield 56, 3) := by decide +kernel
theorem dX7_undo_47 : decode cX7_undo 47 = .ok (.iload_n 1, 1) := by decide +kernel
theorem dX7_undo_48 : decode cX7_undo 48 = .ok (.aload_n 0, 1) := by decide +kernel
theorem dX7_undo_49 : decode cX7_undo 49 = .ok (.getfield 155, 3) := by decide +kernel
theorem dX7_undo_52 : decode cX7_undo 52 = .ok (.iastore, 1) := by decide +kernel
theorem dX7_undo_53 : decode cX7_undo 53 = .ok (.iconst 1, 1) := by decide +kernel
theorem dX7_undo_54 : decode cX7_undo 54 = .ok (.ireturn, 1) := by decide +kernel
set_option maxRecDepth 20000 in
theorem ggX7_days_X7_in : GoodIn wsX7_days wsX7_in := goodIn_r _ [10] (by decide +kernel) (by decide +kernel)
set_option maxRecDepth 20000 in
theorem gX7_days_X7_in : GoodIn wsX7_days (va_wsS RX7 96 yX7_in wsX7_in) := goodIn_app (goodIn_of _ (by decide +kernel)) ggX7_days_X7_in
set_option maxRecDepth 20000 in
theorem ggX7_days_X7_throwsIf : GoodIn wsX7_days wsX7_throwsIf := goodIn_r _ [14, 1, 15, 16, 17, 18, 19, 20, 21, 22, 23, 24, 25, 26, 27, 28, 29, 30, 31, 32, 33, 34, 35, 36, 37, 38, 39, 40, 41, 42, 43, 44, 45, 46, 47, 48, 49, 50, 51, 52, 53, 54, 55, 56] (by decide +kernel) (by decide +kernel)
set_option maxRecDepth 20000 in
theorem gX7_days_X7_throwsIf : GoodIn wsX7_days (wsV RX7 100 RX7 yX7_throwsIf wsX7_throwsIf) := goodIn_app (goodIn_of _ (by decide +kernel)) ggX7_days_X7_throwsIf
theorem dX7_days_0 : decode cX7_days 0 = .ok (.aload_n 0, 1) := by decide +kernel
theorem dX7_days_1 : decode cX7_days 1 = .ok (.iconst 0, 1) := by decide +kernel
end
section
theorem dX7_days_2 : decode cX7_days 2 = .ok (.putfield 93, 3) := by decide +kernel
theorem dX7_days_5 : decode cX7_days 5 = .ok (.aload_n 0, 1) := by decide +kernel
theorem dX7_days_6 : decode cX7_days 6 = .ok (.iload_n 1, 1) := by decide +kernel
theorem dX7_days_7 : decode cX7_days 7 = .ok (.iconst 0, 1) := by decide +kernel
theorem dX7_days_8 : decode cX7_days 8 = .ok (.bipush 100, 2) := by decide +kernel
theorem dX7_days_10 : decode cX7_days 10 = .ok (.invokestatic 96, 3) := by decide +kernel
theorem dX7_days_13 : decode cX7_days 13 = .ok (.ifCond .ne 7, 3) := by decide +kernel
theorem dX7_days_16 : decode cX7_days 16 = .ok (.iconst 1, 1) := by decide +kernel
theorem dX7_days_17 : decode cX7_days 17 = .ok (.goto 4, 3) := by decide +kernel
theorem dX7_days_20 : decode cX7_days 20 = .ok (.iconst 0, 1) := by decide +kernel
theorem dX7_days_21 : decode cX7_days 21 = .ok (.iconst 1, 1) := by decide +kernel
theorem dX7_days_22 : decode cX7_days 22 = .ok (.invokevirtual 100, 3) := by decide +kernel
theorem dX7_days_25 : decode cX7_days 25 = .ok (.ifCond .eq 5, 3) := by decide +kernel
theorem dX7_days_28 : decode cX7_days 28 = .ok (.iconst 0, 1) := by decide +kernel
theorem dX7_days_29 : decode cX7_days 29 = .ok (.ireturn, 1) := by decide +kernel
theorem dX7_days_30 : decode cX7_days 30 = .ok (.aload_n 0, 1) := by decide +kernel
theorem dX7_days_31 : decode cX7_days 31 = .ok (.sipush 1000, 3) := by decide +kernel
theorem dX7_days_34 : decode cX7_days 34 = .ok (.aload_n 0, 1) := by decide +kernel
theorem dX7_days_35 : decode cX7_days 35 = .ok (.getfield 155, 3) := by decide +kernel
theorem dX7_days_38 : decode cX7_days 38 = .ok (.iload_n 1, 1) := by decide +kernel
theorem dX7_days_39 : decode cX7_days 39 = .ok (.iadd, 1) := by decide +kernel
theorem dX7_days_40 : decode cX7_days 40 = .ok (.invokestatic 158, 3) := by decide +kernel
theorem dX7_days_43 : decode cX7_days 43 = .ok (.putfield 155, 3) := by decide +kernel
theorem dX7_days_46 : decode cX7_days 46 = .ok (.aload_n 0, 1) := by decide +kernel
theorem dX7_days_47 : decode cX7_days 47 = .ok (.getfield 155, 3) := by decide +kernel
theorem dX7_days_50 : decode cX7_days 50 = .ok (.ireturn, 1) := by decide +kernel
theorem dX7_did_0 : decode cX7_did 0 = .ok (.iconst 0, 1) := by decide +kernel
theorem dX7_did_1 : decode cX7_did 1 = .ok (.istore 4, 2) := by decide +kernel
theorem dX7_did_3 : decode cX7_did 3 = .ok (.iload 4, 2) := by decide +kernel
theorem dX7_did_5 : decode cX7_did 5 = .ok (.aload_n 0, 1) := by decide +kernel
theorem dX7_did_6 : decode cX7_did 6 = .ok (.getfield 152, 3) := by decide +kernel
theorem dX7_did_9 : decode cX7_did 9 = .ok (.if_icmp .ge 65, 3) := by decide +kernel
theorem dX7_did_12 : decode cX7_did 12 = .ok (.aload_n 0, 1) := by decide +kernel
theorem dX7_did_13 : decode cX7_did 13 = .ok (.getfield 46, 3) := by decide +kernel
theorem dX7_did_16 : decode cX7_did 16 = .ok (.iload 4, 2) := by decide +kernel
theorem dX7_did_18 : decode cX7_did 18 = .ok (.iaload, 1) := by decide +kernel
theorem dX7_did_19 : decode cX7_did 19 = .ok (.iload_n 1, 1) := by decide +kernel
theorem dX7_did_20 : decode cX7_did 20 = .ok (.if_icmp .ne 48, 3) := by decide +kernel
theorem dX7_did_23 : decode cX7_did 23 = .ok (.aload_n 0, 1) := by decide +kernel
theorem dX7_did_24 : decode cX7_did 24 = .ok (.getfield 49, 3) := by decide +kernel
theorem dX7_did_27 : decode cX7_did 27 = .ok (.iload 4, 2) := by decide +kernel
theorem dX7_did_29 : decode cX7_did 29 = .ok (.baload, 1) := by decide +kernel
theorem dX7_did_30 : decode cX7_did 30 = .ok (.iload_n 2, 1) := by decide +kernel
theorem dX7_did_31 : decode cX7_did 31 = .ok (.if_icmp .ne 37, 3) := by decide +kernel
theorem dX7_did_34 : decode cX7_did 34 = .ok (.aload_n 0, 1) := by decide +kernel
theorem dX7_did_35 : decode cX7_did 35 = .ok (.getfield 53, 3) := by decide +kernel
theorem dX7_did_38 : decode cX7_did 38 = .ok (.iload 4, 2) := by decide +kernel
theorem dX7_did_40 : decode cX7_did 40 = .ok (.iaload, 1) := by decide +kernel
theorem dX7_did_41 : decode cX7_did 41 = .ok (.iload_n 3, 1) := by decide +kernel
theorem dX7_did_42 : decode cX7_did 42 = .ok (.if_icmp .gt 26, 3) := by decide +kernel
theorem dX7_did_45 : decode cX7_did 45 = .ok (.aload_n 0, 1) := by decide +kernel
theorem dX7_did_46 : decode cX7_did 46 = .ok (.getfield 56, 3) := by decide +kernel
theorem dX7_did_49 : decode cX7_did 49 = .ok (.iload 4, 2) := by decide +kernel
theorem dX7_did_51 : decode cX7_did 51 = .ok (.iaload, 1) := by decide +kernel
theorem dX7_did_52 : decode cX7_did 52 = .ok (.ifCond .lt 14, 3) := by decide +kernel
theorem dX7_did_55 : decode cX7_did 55 = .ok (.iload_n 3, 1) := by decide +kernel
theorem dX7_did_56 : decode cX7_did 56 = .ok (.aload_n 0, 1) := by decide +kernel
theorem dX7_did_57 : decode cX7_did 57 = .ok (.getfield 56, 3) := by decide +kernel
theorem dX7_did_60 : decode cX7_did 60 = .ok (.iload 4, 2) := by decide +kernel
theorem dX7_did_62 : decode cX7_did 62 = .ok (.iaload, 1) := by decide +kernel
theorem dX7_did_63 : decode cX7_did 63 = .ok (.if_icmp .ge 5, 3) := by decide +kernel
theorem dX7_did_66 : decode cX7_did 66 = .ok (.iconst 1, 1) := by decide +kernel
theorem dX7_did_67 : decode cX7_did 67 = .ok (.ireturn, 1) := by decide +kernel
theorem dX7_did_68 : decode cX7_did 68 = .ok (.iinc 4 1, 3) := by decide +kernel
theorem dX7_did_71 : decode cX7_did 71 = .ok (.goto (-68), 3) := by decide +kernel
theorem dX7_did_74 : decode cX7_did 74 = .ok (.iconst 0, 1) := by decide +kernel
theorem dX7_did_75 : decode cX7_did 75 = .ok (.ireturn, 1) := by decide +kernel
set_option maxRecDepth 20000 in
theorem ggX7_explains_X7_did : GoodIn wsX7_explains wsX7_did := goodIn_r _ [12, 13, 14, 15, 16, 17, 25, 26, 27, 28, 29, 30, 31, 32, 33, 34, 35, 36, 37, 38, 39, 40, 41, 42, 43, 44, 45, 46, 47, 48, 49, 50, 51, 52, 53, 54, 55, 56, 57, 58, 59, 60, 61, 62, 63, 64, 65, 66] (by decide +kernel) (by decide +kernel)
set_option maxRecDepth 20000 in
theorem gX7_explains_X7_did : GoodIn wsX7_explains (wsV RX7 163 RX7 yX7_did wsX7_did) := goodIn_app (goodIn_of _ (by decide +kernel)) ggX7_explains_X7_did
set_option maxRecDepth 20000 in
theorem ggX7_explains_J6_bitCount_0f7a4 : GoodIn wsX7_explains wsJ6_bitCount_0f7a4 := goodIn_r _ [21, 22, 23, 24] (by decide +kernel) (by decide +kernel)
set_option maxRecDepth 20000 in
theorem gX7_explains_J6_bitCount_0f7a4 : GoodIn wsX7_explains (va_wsS RX7 176 yJ6_bitCount_0f7a4 wsJ6_bitCount_0f7a4) := goodIn_app (goodIn_of _ (by decide +kernel)) ggX7_explains_J6_bitCount_0f7a4
theorem dX7_explains_0 : decode cX7_explains 0 = .ok (.iconst 1, 1) := by decide +kernel
theorem dX7_explains_1 : decode cX7_explains 1 = .ok (.aload_n 0, 1) := by decide +kernel
theorem dX7_explains_2 : decode cX7_explains 2 = .ok (.getfield 132, 3) := by decide +kernel
theorem dX7_explains_5 : decode cX7_explains 5 = .ok (.ishl, 1) := by decide +kernel
theorem dX7_explains_6 : decode cX7_explains 6 = .ok (.iconst 1, 1) := by decide +kernel
theorem dX7_explains_7 : decode cX7_explains 7 = .ok (.isub, 1) := by decide +kernel
theorem dX7_explains_8 : decode cX7_explains 8 = .ok (.istore_n 2, 1) := by decide +kernel
theorem dX7_explains_9 : decode cX7_explains 9 = .ok (.iconst 0, 1) := by decide +kernel
theorem dX7_explains_10 : decode cX7_explains 10 = .ok (.istore_n 3, 1) := by decide +kernel
theorem dX7_explains_11 : decode cX7_explains 11 = .ok (.iload_n 3, 1) := by decide +kernel
theorem dX7_explains_12 : decode cX7_explains 12 = .ok (.aload_n 0, 1) := by decide +kernel
theorem dX7_explains_13 : decode cX7_explains 13 = .ok (.getfield 142, 3) := by decide +kernel
theorem dX7_explains_16 : decode cX7_explains 16 = .ok (.if_icmp .ge 43, 3) := by decide +kernel
theorem dX7_explains_19 : decode cX7_explains 19 = .ok (.aload_n 0, 1) := by decide +kernel
theorem dX7_explains_20 : decode cX7_explains 20 = .ok (.getfield 59, 3) := by decide +kernel
theorem dX7_explains_23 : decode cX7_explains 23 = .ok (.iload_n 3, 1) := by decide +kernel
theorem dX7_explains_24 : decode cX7_explains 24 = .ok (.aload_n 0, 1) := by decide +kernel
theorem dX7_explains_25 : decode cX7_explains 25 = .ok (.iload_n 3, 1) := by decide +kernel
theorem dX7_explains_26 : decode cX7_explains 26 = .ok (.iconst 1, 1) := by decide +kernel
theorem dX7_explains_27 : decode cX7_explains 27 = .ok (.iload_n 1, 1) := by decide +kernel
theorem dX7_explains_28 : decode cX7_explains 28 = .ok (.invokevirtual 163, 3) := by decide +kernel
theorem dX7_explains_31 : decode cX7_explains 31 = .ok (.bastore, 1) := by decide +kernel
theorem dX7_explains_32 : decode cX7_explains 32 = .ok (.aload_n 0, 1) := by decide +kernel
theorem dX7_explains_33 : decode cX7_explains 33 = .ok (.iload_n 3, 1) := by decide +kernel
theorem dX7_explains_34 : decode cX7_explains 34 = .ok (.iconst 0, 1) := by decide +kernel
theorem dX7_explains_35 : decode cX7_explains 35 = .ok (.iload_n 1, 1) := by decide +kernel
theorem dX7_explains_36 : decode cX7_explains 36 = .ok (.invokevirtual 163, 3) := by decide +kernel
theorem dX7_explains_39 : decode cX7_explains 39 = .ok (.ifCond .eq 14, 3) := by decide +kernel
theorem dX7_explains_42 : decode cX7_explains 42 = .ok (.iload_n 2, 1) := by decide +kernel
theorem dX7_explains_43 : decode cX7_explains 43 = .ok (.aload_n 0, 1) := by decide +kernel
theorem dX7_explains_44 : decode cX7_explains 44 = .ok (.getfield 43, 3) := by decide +kernel
theorem dX7_explains_47 : decode cX7_explains 47 = .ok (.iload_n 3, 1) := by decide +kernel
theorem dX7_explains_48 : decode cX7_explains 48 = .ok (.iaload, 1) := by decide +kernel
theorem dX7_explains_49 : decode cX7_explains 49 = .ok (.iconst (-1), 1) := by decide +kernel
theorem dX7_explains_50 : decode cX7_explains 50 = .ok (.ixor, 1) := by decide +kernel
theorem dX7_explains_51 : decode cX7_explains 51 = .ok (.iand, 1) := by decide +kernel
theorem dX7_explains_52 : decode cX7_explains 52 = .ok (.istore_n 2, 1) := by decide +kernel
theorem dX7_explains_53 : decode cX7_explains 53 = .ok (.iinc 3 1, 3) := by decide +kernel
theorem dX7_explains_56 : decode cX7_explains 56 = .ok (.goto (-45), 3) := by decide +kernel
theorem dX7_explains_59 : decode cX7_explains 59 = .ok (.aload_n 0, 1) := by decide +kernel
theorem dX7_explains_60 : decode cX7_explains 60 = .ok (.iconst (-1), 1) := by decide +kernel
theorem dX7_explains_61 : decode cX7_explains 61 = .ok (.putfield 167, 3) := by decide +kernel
theorem dX7_explains_64 : decode cX7_explains 64 = .ok (.aload_n 0, 1) := by decide +kernel
theorem dX7_explains_65 : decode cX7_explains 65 = .ok (.iconst 0, 1) := by decide +kernel
theorem dX7_explains_66 : decode cX7_explains 66 = .ok (.putfield 170, 3) := by decide +kernel
theorem dX7_explains_69 : decode cX7_explains 69 = .ok (.aload_n 0, 1) := by decide +kernel
theorem dX7_explains_70 : decode cX7_explains 70 = .ok (.iconst 0, 1) := by decide +kernel
theorem dX7_explains_71 : decode cX7_explains 71 = .ok (.putfield 173, 3) := by decide +kernel
theorem dX7_explains_74 : decode cX7_explains 74 = .ok (.iconst 0, 1) := by decide +kernel
theorem dX7_explains_75 : decode cX7_explains 75 = .ok (.istore_n 3, 1) := by decide +kernel
theorem dX7_explains_76 : decode cX7_explains 76 = .ok (.iload_n 3, 1) := by decide +kernel
theorem dX7_explains_77 : decode cX7_explains 77 = .ok (.iconst 1, 1) := by decide +kernel
theorem dX7_explains_78 : decode cX7_explains 78 = .ok (.aload_n 0, 1) := by decide +kernel
theorem dX7_explains_79 : decode cX7_explains 79 = .ok (.getfield 132, 3) := by decide +kernel
theorem dX7_explains_82 : decode cX7_explains 82 = .ok (.ishl, 1) := by decide +kernel
theorem dX7_explains_83 : decode cX7_explains 83 = .ok (.if_icmp .ge 160, 3) := by decide +kernel
theorem dX7_explains_86 : decode cX7_explains 86 = .ok (.iload_n 3, 1) := by decide +kernel
theorem dX7_explains_87 : decode cX7_explains 87 = .ok (.iload_n 2, 1) := by decide +kernel
theorem dX7_explains_88 : decode cX7_explains 88 = .ok (.iconst (-1), 1) := by decide +kernel
theorem dX7_explains_89 : decode cX7_explains 89 = .ok (.ixor, 1) := by decide +kernel
theorem dX7_explains_90 : decode cX7_explains 90 = .ok (.iand, 1) := by decide +kernel
theorem dX7_explains_91 : decode cX7_explains 91 = .ok (.ifCond .eq 6, 3) := by decide +kernel
theorem dX7_explains_94 : decode cX7_explains 94 = .ok (.goto 143, 3) := by decide +kernel
theorem dX7_explains_97 : decode cX7_explains 97 = .ok (.iconst 1, 1) := by decide +kernel
theorem dX7_explains_98 : decode cX7_explains 98 = .ok (.istore 4, 2) := by decide +kernel
theorem dX7_explains_100 : decode cX7_explains 100 = .ok (.iconst 0, 1) := by decide +kernel
theorem dX7_explains_101 : decode cX7_explains 101 = .ok (.istore 5, 2) := by decide +kernel
theorem dX7_explains_103 : decode cX7_explains 103 = .ok (.iload 5, 2) := by decide +kernel
theorem dX7_explains_105 : decode cX7_explains 105 = .ok (.aload_n 0, 1) := by decide +kernel
theorem dX7_explains_106 : decode cX7_explains 106 = .ok (.getfield 142, 3) := by decide +kernel
theorem dX7_explains_109 : decode cX7_explains 109 = .ok (.if_icmp .ge 43, 3) := by decide +kernel
theorem dX7_explains_112 : decode cX7_explains 112 = .ok (.iload 4, 2) := by decide +kernel
theorem dX7_explains_114 : decode cX7_explains 114 = .ok (.ifCond .eq 38, 3) := by decide +kernel
theorem dX7_explains_117 : decode cX7_explains 117 = .ok (.aload_n 0, 1) := by decide +kernel
theorem dX7_explains_118 : decode cX7_explains 118 = .ok (.getfield 59, 3) := by decide +kernel
theorem dX7_explains_121 : decode cX7_explains 121 = .ok (.iload 5, 2) := by decide +kernel
theorem dX7_explains_123 : decode cX7_explains 123 = .ok (.baload, 1) := by decide +kernel
theorem dX7_explains_124 : decode cX7_explains 124 = .ok (.ifCond .eq 15, 3) := by decide +kernel
theorem dX7_explains_127 : decode cX7_explains 127 = .ok (.aload_n 0, 1) := by decide +kernel
theorem dX7_explains_128 : decode cX7_explains 128 = .ok (.getfield 43, 3) := by decide +kernel
theorem dX7_explains_131 : decode cX7_explains 131 = .ok (.iload 5, 2) := by decide +kernel
theorem dX7_explains_133 : decode cX7_explains 133 = .ok (.iaload, 1) := by decide +kernel
theorem dX7_explains_134 : decode cX7_explains 134 = .ok (.iload_n 3, 1) := by decide +kernel
theorem dX7_explains_135 : decode cX7_explains 135 = .ok (.iand, 1) := by decide +kernel
theorem dX7_explains_136 : decode cX7_explains 136 = .ok (.ifCond .eq 7, 3) := by decide +kernel
theorem dX7_explains_139 : decode cX7_explains 139 = .ok (.iconst 1, 1) := by decide +kernel
theorem dX7_explains_140 : decode cX7_explains 140 = .ok (.goto 4, 3) := by decide +kernel
theorem dX7_explains_143 : decode cX7_explains 143 = .ok (.iconst 0, 1) := by decide +kernel
theorem dX7_explains_144 : decode cX7_explains 144 = .ok (.istore 4, 2) := by decide +kernel
theorem dX7_explains_146 : decode cX7_explains 146 = .ok (.iinc 5 1, 3) := by decide +kernel
theorem dX7_explains_149 : decode cX7_explains 149 = .ok (.goto (-46), 3) := by decide +kernel
theorem dX7_explains_152 : decode cX7_explains 152 = .ok (.iload 4, 2) := by decide +kernel
theorem dX7_explains_154 : decode cX7_explains 154 = .ok (.ifCond .ne 6, 3) := by decide +kernel
theorem dX7_explains_157 : decode cX7_explains 157 = .ok (.goto 80, 3) := by decide +kernel
theorem dX7_explains_160 : decode cX7_explains 160 = .ok (.iload_n 3, 1) := by decide +kernel
theorem dX7_explains_161 : decode cX7_explains 161 = .ok (.invokestatic 176, 3) := by decide +kernel
theorem dX7_explains_164 : decode cX7_explains 164 = .ok (.istore 5, 2) := by decide +kernel
theorem dX7_explains_166 : decode cX7_explains 166 = .ok (.aload_n 0, 1) := by decide +kernel
theorem dX7_explains_167 : decode cX7_explains 167 = .ok (.getfield 167, 3) := by decide +kernel
theorem dX7_explains_170 : decode cX7_explains 170 = .ok (.ifCond .lt 15, 3) := by decide +kernel
theorem dX7_explains_173 : decode cX7_explains 173 = .ok (.iload 5, 2) := by decide +kernel
theorem dX7_explains_175 : decode cX7_explains 175 = .ok (.aload_n 0, 1) := by decide +kernel
theorem dX7_explains_176 : decode cX7_explains 176 = .ok (.getfield 167, 3) := by decide +kernel
theorem dX7_explains_179 : decode cX7_explains 179 = .ok (.if_icmp .le 6, 3) := by decide +kernel
theorem dX7_explains_182 : decode cX7_explains 182 = .ok (.goto 55, 3) := by decide +kernel
theorem dX7_explains_185 : decode cX7_explains 185 = .ok (.aload_n 0, 1) := by decide +kernel
theorem dX7_explains_186 : decode cX7_explains 186 = .ok (.getfield 167, 3) := by decide +kernel
theorem dX7_explains_189 : decode cX7_explains 189 = .ok (.ifCond .lt 12, 3) := by decide +kernel
theorem dX7_explains_192 : decode cX7_explains 192 = .ok (.iload 5, 2) := by decide +kernel
theorem dX7_explains_194 : decode cX7_explains 194 = .ok (.aload_n 0, 1) := by decide +kernel
theorem dX7_explains_195 : decode cX7_explains 195 = .ok (.getfield 167, 3) := by decide +kernel
theorem dX7_explains_198 : decode cX7_explains 198 = .ok (.if_icmp .ge 19, 3) := by decide +kernel
theorem dX7_explains_201 : decode cX7_explains 201 = .ok (.aload_n 0, 1) := by decide +kernel
theorem dX7_explains_202 : decode cX7_explains 202 = .ok (.iload 5, 2) := by decide +kernel
theorem dX7_explains_204 : decode cX7_explains 204 = .ok (.putfield 167, 3) := by decide +kernel
theorem dX7_explains_207 : decode cX7_explains 207 = .ok (.aload_n 0, 1) := by decide +kernel
theorem dX7_explains_208 : decode cX7_explains 208 = .ok (.iconst 0, 1) := by decide +kernel
theorem dX7_explains_209 : decode cX7_explains 209 = .ok (.putfield 170, 3) := by decide +kernel
theorem dX7_explains_212 : decode cX7_explains 212 = .ok (.aload_n 0, 1) := by decide +kernel
theorem dX7_explains_213 : decode cX7_explains 213 = .ok (.iload_n 3, 1) := by decide +kernel
theorem dX7_explains_214 : decode cX7_explains 214 = .ok (.putfield 173, 3) := by decide +kernel
theorem dX7_explains_217 : decode cX7_explains 217 = .ok (.aload_n 0, 1) := by decide +kernel
theorem dX7_explains_218 : decode cX7_explains 218 = .ok (.dup, 1) := by decide +kernel
theorem dX7_explains_219 : decode cX7_explains 219 = .ok (.getfield 170, 3) := by decide +kernel
theorem dX7_explains_222 : decode cX7_explains 222 = .ok (.iconst 1, 1) := by decide +kernel
theorem dX7_explains_223 : decode cX7_explains 223 = .ok (.iadd, 1) := by decide +kernel
theorem dX7_explains_224 : decode cX7_explains 224 = .ok (.putfield 170, 3) := by decide +kernel
theorem dX7_explains_227 : decode cX7_explains 227 = .ok (.aload_n 0, 1) := by decide +kernel
theorem dX7_explains_228 : decode cX7_explains 228 = .ok (.dup, 1) := by decide +kernel
theorem dX7_explains_229 : decode cX7_explains 229 = .ok (.getfield 173, 3) := by decide +kernel
theorem dX7_explains_232 : decode cX7_explains 232 = .ok (.iload_n 3, 1) := by decide +kernel
theorem dX7_explains_233 : decode cX7_explains 233 = .ok (.iand, 1) := by decide +kernel
theorem dX7_explains_234 : decode cX7_explains 234 = .ok (.putfield 173, 3) := by decide +kernel
theorem dX7_explains_237 : decode cX7_explains 237 = .ok (.iinc 3 1, 3) := by decide +kernel
theorem dX7_explains_240 : decode cX7_explains 240 = .ok (.goto (-164), 3) := by decide +kernel
theorem dX7_explains_243 : decode cX7_explains 243 = .ok (.return_, 1) := by decide +kernel
set_option maxRecDepth 20000 in
theorem ggX7_explain_X7_in : GoodIn wsX7_explain wsX7_in := goodIn_r _ [8] (by decide +kernel) (by decide +kernel)
set_option maxRecDepth 20000 in
theorem gX7_explain_X7_in : GoodIn wsX7_explain (va_wsS RX7 96 yX7_in wsX7_in) := goodIn_app (goodIn_of _ (by decide +kernel)) ggX7_explain_X7_in
set_option maxRecDepth 20000 in
theorem ggX7_explain_X7_throwsIf : GoodIn wsX7_explain wsX7_throwsIf := goodIn_r _ [12, 1, 37, 38, 39, 40, 41, 42, 43, 44, 45, 46, 47, 48, 49, 50, 51, 52, 53, 54, 55, 56, 57, 58, 59, 60, 61, 62, 63, 64, 65, 66, 67, 68, 69, 70, 71, 72, 73, 74, 75, 76, 77, 78] (by decide +kernel) (by decide +kernel)
set_option maxRecDepth 20000 in
theorem gX7_explain_X7_throwsIf : GoodIn wsX7_explain (wsV RX7 100 RX7 yX7_throwsIf wsX7_throwsIf) := goodIn_app (goodIn_of _ (by decide +kernel)) ggX7_explain_X7_throwsIf
set_option maxRecDepth 20000 in
theorem ggX7_explain_X7_explains : GoodIn wsX7_explain wsX7_explains := goodIn_r _ [16, 17, 18, 19, 20, 2, 3, 4, 21, 22, 23, 7, 24, 25, 26, 27, 28, 29, 30, 31, 32, 33, 34, 35, 36, 37, 38, 39, 40, 41, 42, 43, 44, 45, 46, 47, 48, 49, 50, 51, 52, 53, 54, 55, 56, 57, 58, 59, 60, 61, 62, 63, 64, 65, 66, 67, 68, 69, 70, 71, 72, 73, 74, 75, 76, 77, 78] (by decide +kernel) (by decide +kernel)
set_option maxRecDepth 20000 in
theorem gX7_explain_X7_explains : GoodIn wsX7_explain (wsV RX7 182 RX7 yX7_explains wsX7_explains) := goodIn_app (goodIn_of _ (by decide +kernel)) ggX7_explain_X7_explains
theorem dX7_explain_0 : decode cX7_explain 0 = .ok (.aload_n 0, 1) := by decide +kernel
theorem dX7_explain_1 : decode cX7_explain 1 = .ok (.iconst 0, 1) := by decide +kernel
theorem dX7_explain_2 : decode cX7_explain 2 = .ok (.putfield 93, 3) := by decide +kernel
theorem dX7_explain_5 : decode cX7_explain 5 = .ok (.aload_n 0, 1) := by decide +kernel
theorem dX7_explain_6 : decode cX7_explain 6 = .ok (.iload_n 2, 1) := by decide +kernel
theorem dX7_explain_7 : decode cX7_explain 7 = .ok (.iconst 0, 1) := by decide +kernel
theorem dX7_explain_8 : decode cX7_explain 8 = .ok (.iconst 2, 1) := by decide +kernel
theorem dX7_explain_9 : decode cX7_explain 9 = .ok (.invokestatic 96, 3) := by decide +kernel
theorem dX7_explain_12 : decode cX7_explain 12 = .ok (.ifCond .ne 7, 3) := by decide +kernel
theorem dX7_explain_15 : decode cX7_explain 15 = .ok (.iconst 1, 1) := by decide +kernel
theorem dX7_explain_16 : decode cX7_explain 16 = .ok (.goto 4, 3) := by decide +kernel
theorem dX7_explain_19 : decode cX7_explain 19 = .ok (.iconst 0, 1) := by decide +kernel
theorem dX7_explain_20 : decode cX7_explain 20 = .ok (.iconst 1, 1) := by decide +kernel
theorem dX7_explain_21 : decode cX7_explain 21 = .ok (.invokevirtual 100, 3) := by decide +kernel
theorem dX7_explain_24 : decode cX7_explain 24 = .ok (.ifCond .eq 5, 3) := by decide +kernel
theorem dX7_explain_27 : decode cX7_explain 27 = .ok (.iconst 0, 1) := by decide +kernel
theorem dX7_explain_28 : decode cX7_explain 28 = .ok (.ireturn, 1) := by decide +kernel
theorem dX7_explain_29 : decode cX7_explain 29 = .ok (.aload_n 0, 1) := by decide +kernel
theorem dX7_explain_30 : decode cX7_explain 30 = .ok (.iload_n 1, 1) := by decide +kernel
theorem dX7_explain_31 : decode cX7_explain 31 = .ok (.invokevirtual 182, 3) := by decide +kernel
theorem dX7_explain_34 : decode cX7_explain 34 = .ok (.iload_n 2, 1) := by decide +kernel
theorem dX7_explain_35 : decode cX7_explain 35 = .ok (.ifCond .ne 10, 3) := by decide +kernel
theorem dX7_explain_38 : decode cX7_explain 38 = .ok (.aload_n 0, 1) := by decide +kernel
theorem dX7_explain_39 : decode cX7_explain 39 = .ok (.getfield 167, 3) := by decide +kernel
theorem dX7_explain_42 : decode cX7_explain 42 = .ok (.goto 19, 3) := by decide +kernel
theorem dX7_explain_45 : decode cX7_explain 45 = .ok (.iload_n 2, 1) := by decide +kernel
theorem dX7_explain_46 : decode cX7_explain 46 = .ok (.iconst 1, 1) := by decide +kernel
theorem dX7_explain_47 : decode cX7_explain 47 = .ok (.if_icmp .ne 10, 3) := by decide +kernel
theorem dX7_explain_50 : decode cX7_explain 50 = .ok (.aload_n 0, 1) := by decide +kernel
theorem dX7_explain_51 : decode cX7_explain 51 = .ok (.getfield 170, 3) := by decide +kernel
theorem dX7_explain_54 : decode cX7_explain 54 = .ok (.goto 7, 3) := by decide +kernel
theorem dX7_explain_57 : decode cX7_explain 57 = .ok (.aload_n 0, 1) := by decide +kernel
theorem dX7_explain_58 : decode cX7_explain 58 = .ok (.getfield 173, 3) := by decide +kernel
theorem dX7_explain_61 : decode cX7_explain 61 = .ok (.ireturn, 1) := by decide +kernel
set_option maxRecDepth 20000 in
theorem ggX7_look_X7_noLot : GoodIn wsX7_look wsX7_noLot := goodIn_r _ [14, 15, 16, 17, 13, 18, 32, 33, 34, 35, 36, 37, 38, 39, 40, 41, 42, 43, 44, 45, 46, 47, 48, 49, 50, 51, 52, 53, 54, 55, 56, 57, 58, 59, 60, 61, 62, 63, 64, 65, 66, 67, 68, 69, 70, 71, 72, 73] (by decide +kernel) (by decide +kernel)
set_option maxRecDepth 20000 in
theorem gX7_look_X7_noLot : GoodIn wsX7_look (wsV RX7 139 RX7 yX7_noLot wsX7_noLot) := goodIn_app (goodIn_of _ (by decide +kernel)) ggX7_look_X7_noLot
set_option maxRecDepth 20000 in
theorem ggX7_look_X7_throwsIf : GoodIn wsX7_look wsX7_throwsIf := goodIn_r _ [22, 1, 32, 33, 34, 35, 36, 37, 38, 39, 40, 41, 42, 43, 44, 45, 46, 47, 48, 49, 50, 51, 52, 53, 54, 55, 56, 57, 58, 59, 60, 61, 62, 63, 64, 65, 66, 67, 68, 69, 70, 71, 72, 73] (by decide +kernel) (by decide +kernel)
set_option maxRecDepth 20000 in
theorem gX7_look_X7_throwsIf : GoodIn wsX7_look (wsV RX7 100 RX7 yX7_throwsIf wsX7_throwsIf) := goodIn_app (goodIn_of _ (by decide +kernel)) ggX7_look_X7_throwsIf
set_option maxRecDepth 20000 in
theorem ggX7_look_X7_did : GoodIn wsX7_look wsX7_did := goodIn_r _ [26, 27, 28, 29, 30, 31, 32, 33, 34, 35, 36, 37, 38, 39, 40, 41, 42, 43, 44, 45, 46, 47, 48, 49, 50, 51, 52, 53, 54, 55, 56, 57, 58, 59, 60, 61, 62, 63, 64, 65, 66, 67, 68, 69, 70, 71, 72, 73] (by decide +kernel) (by decide +kernel)
set_option maxRecDepth 20000 in
theorem gX7_look_X7_did : GoodIn wsX7_look (wsV RX7 163 RX7 yX7_did wsX7_did) := goodIn_app (goodIn_of _ (by decide +kernel)) ggX7_look_X7_did
theorem dX7_look_0 : decode cX7_look 0 = .ok (.aload_n 0, 1) := by decide +kernel
theorem dX7_look_1 : decode cX7_look 1 = .ok (.iconst 0, 1) := by decide +kernel
theorem dX7_look_2 : decode cX7_look 2 = .ok (.putfield 93, 3) := by decide +kernel
theorem dX7_look_5 : decode cX7_look 5 = .ok (.aload_n 0, 1) := by decide +kernel
theorem dX7_look_6 : decode cX7_look 6 = .ok (.aload_n 0, 1) := by decide +kernel
theorem dX7_look_7 : decode cX7_look 7 = .ok (.iload_n 1, 1) := by decide +kernel
theorem dX7_look_8 : decode cX7_look 8 = .ok (.invokevirtual 139, 3) := by decide +kernel
theorem dX7_look_11 : decode cX7_look 11 = .ok (.iconst 1, 1) := by decide +kernel
theorem dX7_look_12 : decode cX7_look 12 = .ok (.invokevirtual 100, 3) := by decide +kernel
theorem dX7_look_15 : decode cX7_look 15 = .ok (.ifCond .eq 5, 3) := by decide +kernel
theorem dX7_look_18 : decode cX7_look 18 = .ok (.iconst 0, 1) := by decide +kernel
theorem dX7_look_19 : decode cX7_look 19 = .ok (.ireturn, 1) := by decide +kernel
theorem dX7_look_20 : decode cX7_look 20 = .ok (.iload_n 2, 1) := by decide +kernel
theorem dX7_look_21 : decode cX7_look 21 = .ok (.tableswitch 133 0 5 #[39, 46, 53, 60, 67, 74], 39) := by decide +kernel
theorem dX7_look_60 : decode cX7_look 60 = .ok (.aload_n 0, 1) := by decide +kernel
theorem dX7_look_61 : decode cX7_look 61 = .ok (.getfield 28, 3) := by decide +kernel
theorem dX7_look_64 : decode cX7_look 64 = .ok (.iload_n 1, 1) := by decide +kernel
theorem dX7_look_65 : decode cX7_look 65 = .ok (.iaload, 1) := by decide +kernel
theorem dX7_look_66 : decode cX7_look 66 = .ok (.ireturn, 1) := by decide +kernel
theorem dX7_look_67 : decode cX7_look 67 = .ok (.aload_n 0, 1) := by decide +kernel
theorem dX7_look_68 : decode cX7_look 68 = .ok (.getfield 31, 3) := by decide +kernel
theorem dX7_look_71 : decode cX7_look 71 = .ok (.iload_n 1, 1) := by decide +kernel
theorem dX7_look_72 : decode cX7_look 72 = .ok (.iaload, 1) := by decide +kernel
theorem dX7_look_73 : decode cX7_look 73 = .ok (.ireturn, 1) := by decide +kernel
theorem dX7_look_74 : decode cX7_look 74 = .ok (.aload_n 0, 1) := by decide +kernel
theorem dX7_look_75 : decode cX7_look 75 = .ok (.getfield 34, 3) := by decide +kernel
theorem dX7_look_78 : decode cX7_look 78 = .ok (.iload_n 1, 1) := by decide +kernel
theorem dX7_look_79 : decode cX7_look 79 = .ok (.iaload, 1) := by decide +kernel
theorem dX7_look_80 : decode cX7_look 80 = .ok (.ireturn, 1) := by decide +kernel
theorem dX7_look_81 : decode cX7_look 81 = .ok (.aload_n 0, 1) := by decide +kernel
theorem dX7_look_82 : decode cX7_look 82 = .ok (.getfield 37, 3) := by decide +kernel
theorem dX7_look_85 : decode cX7_look 85 = .ok (.iload_n 1, 1) := by decide +kernel
theorem dX7_look_86 : decode cX7_look 86 = .ok (.iaload, 1) := by decide +kernel
theorem dX7_look_87 : decode cX7_look 87 = .ok (.ireturn, 1) := by decide +kernel
theorem dX7_look_88 : decode cX7_look 88 = .ok (.aload_n 0, 1) := by decide +kernel
theorem dX7_look_89 : decode cX7_look 89 = .ok (.getfield 40, 3) := by decide +kernel
theorem dX7_look_92 : decode cX7_look 92 = .ok (.iload_n 1, 1) := by decide +kernel
theorem dX7_look_93 : decode cX7_look 93 = .ok (.iaload, 1) := by decide +kernel
theorem dX7_look_94 : decode cX7_look 94 = .ok (.ireturn, 1) := by decide +kernel
theorem dX7_look_95 : decode cX7_look 95 = .ok (.iconst 0, 1) := by decide +kernel
theorem dX7_look_96 : decode cX7_look 96 = .ok (.istore_n 3, 1) := by decide +kernel
theorem dX7_look_97 : decode cX7_look 97 = .ok (.iconst 0, 1) := by decide +kernel
theorem dX7_look_98 : decode cX7_look 98 = .ok (.istore 4, 2) := by decide +kernel
theorem dX7_look_100 : decode cX7_look 100 = .ok (.iload 4, 2) := by decide +kernel
theorem dX7_look_102 : decode cX7_look 102 = .ok (.aload_n 0, 1) := by decide +kernel
theorem dX7_look_103 : decode cX7_look 103 = .ok (.getfield 142, 3) := by decide +kernel
theorem dX7_look_106 : decode cX7_look 106 = .ok (.if_icmp .ge 46, 3) := by decide +kernel
theorem dX7_look_109 : decode cX7_look 109 = .ok (.iload_n 3, 1) := by decide +kernel
theorem dX7_look_110 : decode cX7_look 110 = .ok (.aload_n 0, 1) := by decide +kernel
theorem dX7_look_111 : decode cX7_look 111 = .ok (.getfield 43, 3) := by decide +kernel
theorem dX7_look_114 : decode cX7_look 114 = .ok (.iload 4, 2) := by decide +kernel
theorem dX7_look_116 : decode cX7_look 116 = .ok (.iaload, 1) := by decide +kernel
theorem dX7_look_117 : decode cX7_look 117 = .ok (.iload_n 1, 1) := by decide +kernel
theorem dX7_look_118 : decode cX7_look 118 = .ok (.ishr, 1) := by decide +kernel
theorem dX7_look_119 : decode cX7_look 119 = .ok (.iconst 1, 1) := by decide +kernel
theorem dX7_look_120 : decode cX7_look 120 = .ok (.iand, 1) := by decide +kernel
theorem dX7_look_121 : decode cX7_look 121 = .ok (.iconst 1, 1) := by decide +kernel
theorem dX7_look_122 : decode cX7_look 122 = .ok (.if_icmp .ne 21, 3) := by decide +kernel
theorem dX7_look_125 : decode cX7_look 125 = .ok (.aload_n 0, 1) := by decide +kernel
theorem dX7_look_126 : decode cX7_look 126 = .ok (.iload 4, 2) := by decide +kernel
theorem dX7_look_128 : decode cX7_look 128 = .ok (.iconst 1, 1) := by decide +kernel
theorem dX7_look_129 : decode cX7_look 129 = .ok (.aload_n 0, 1) := by decide +kernel
theorem dX7_look_130 : decode cX7_look 130 = .ok (.getfield 155, 3) := by decide +kernel
theorem dX7_look_133 : decode cX7_look 133 = .ok (.invokevirtual 163, 3) := by decide +kernel
theorem dX7_look_136 : decode cX7_look 136 = .ok (.ifCond .eq 7, 3) := by decide +kernel
theorem dX7_look_139 : decode cX7_look 139 = .ok (.iconst 1, 1) := by decide +kernel
theorem dX7_look_140 : decode cX7_look 140 = .ok (.goto 4, 3) := by decide +kernel
theorem dX7_look_143 : decode cX7_look 143 = .ok (.iconst 0, 1) := by decide +kernel
theorem dX7_look_144 : decode cX7_look 144 = .ok (.iadd, 1) := by decide +kernel
theorem dX7_look_145 : decode cX7_look 145 = .ok (.istore_n 3, 1) := by decide +kernel
theorem dX7_look_146 : decode cX7_look 146 = .ok (.iinc 4 1, 3) := by decide +kernel
theorem dX7_look_149 : decode cX7_look 149 = .ok (.goto (-49), 3) := by decide +kernel
theorem dX7_look_152 : decode cX7_look 152 = .ok (.iload_n 3, 1) := by decide +kernel
theorem dX7_look_153 : decode cX7_look 153 = .ok (.ireturn, 1) := by decide +kernel
theorem dX7_look_154 : decode cX7_look 154 = .ok (.aload_n 0, 1) := by decide +kernel
theorem dX7_look_155 : decode cX7_look 155 = .ok (.iconst 2, 1) := by decide +kernel
theorem dX7_look_156 : decode cX7_look 156 = .ok (.putfield 93, 3) := by decide +kernel
theorem dX7_look_159 : decode cX7_look 159 = .ok (.iconst 0, 1) := by decide +kernel
theorem dX7_look_160 : decode cX7_look 160 = .ok (.ireturn, 1) := by decide +kernel
theorem dX7_slatsOfAll_0 : decode cX7_slatsOfAll 0 = .ok (.iconst 0, 1) := by decide +kernel
theorem dX7_slatsOfAll_1 : decode cX7_slatsOfAll 1 = .ok (.istore_n 1, 1) := by decide +kernel
theorem dX7_slatsOfAll_2 : decode cX7_slatsOfAll 2 = .ok (.iconst 0, 1) := by decide +kernel
theorem dX7_slatsOfAll_3 : decode cX7_slatsOfAll 3 = .ok (.istore_n 2, 1) := by decide +kernel
theorem dX7_slatsOfAll_4 : decode cX7_slatsOfAll 4 = .ok (.iload_n 2, 1) := by decide +kernel
theorem dX7_slatsOfAll_5 : decode cX7_slatsOfAll 5 = .ok (.bipush 10, 2) := by decide +kernel
theorem dX7_slatsOfAll_7 : decode cX7_slatsOfAll 7 = .ok (.if_icmp .ge 18, 3) := by decide +kernel
theorem dX7_slatsOfAll_10 : decode cX7_slatsOfAll 10 = .ok (.iload_n 1, 1) := by decide +kernel
theorem dX7_slatsOfAll_11 : decode cX7_slatsOfAll 11 = .ok (.aload_n 0, 1) := by decide +kernel
theorem dX7_slatsOfAll_12 : decode cX7_slatsOfAll 12 = .ok (.getfield 62, 3) := by decide +kernel
theorem dX7_slatsOfAll_15 : decode cX7_slatsOfAll 15 = .ok (.iload_n 2, 1) := by decide +kernel
theorem dX7_slatsOfAll_16 : decode cX7_slatsOfAll 16 = .ok (.iaload, 1) := by decide +kernel
theorem dX7_slatsOfAll_17 : decode cX7_slatsOfAll 17 = .ok (.iadd, 1) := by decide +kernel
theorem dX7_slatsOfAll_18 : decode cX7_slatsOfAll 18 = .ok (.istore_n 1, 1) := by decide +kernel
theorem dX7_slatsOfAll_19 : decode cX7_slatsOfAll 19 = .ok (.iinc 2 1, 3) := by decide +kernel
theorem dX7_slatsOfAll_22 : decode cX7_slatsOfAll 22 = .ok (.goto (-18), 3) := by decide +kernel
theorem dX7_slatsOfAll_25 : decode cX7_slatsOfAll 25 = .ok (.iload_n 1, 1) := by decide +kernel
theorem dX7_slatsOfAll_26 : decode cX7_slatsOfAll 26 = .ok (.ireturn, 1) := by decide +kernel
set_option maxRecDepth 20000 in
theorem ggX7_slats_X7_in : GoodIn wsX7_slats wsX7_in := goodIn_r _ [6] (by decide +kernel) (by decide +kernel)
set_option maxRecDepth 20000 in
theorem gX7_slats_X7_in : GoodIn wsX7_slats (va_wsS RX7 96 yX7_in wsX7_in) := goodIn_app (goodIn_of _ (by decide +kernel)) ggX7_slats_X7_in
set_option maxRecDepth 20000 in
theorem ggX7_slats_X7_throwsIf : GoodIn wsX7_slats wsX7_throwsIf := goodIn_r _ [10, 1, 15, 16, 17, 18, 19, 20, 21, 22, 23, 24, 25, 26, 27, 28, 29, 30, 31, 32, 33, 34, 35, 36, 37, 38, 39, 40, 41, 42, 43, 44, 45, 46, 47, 48, 49, 50, 51, 52, 53, 54, 55, 56] (by decide +kernel) (by decide +kernel)
set_option maxRecDepth 20000 in
theorem gX7_slats_X7_throwsIf : GoodIn wsX7_slats (wsV RX7 100 RX7 yX7_throwsIf wsX7_throwsIf) := goodIn_app (goodIn_of _ (by decide +kernel)) ggX7_slats_X7_throwsIf
set_option maxRecDepth 20000 in
theorem ggX7_slats_X7_slatsOfAll : GoodIn wsX7_slats wsX7_slatsOfAll := goodIn_r _ [14, 2, 15, 16, 17, 18, 19, 20, 21, 22, 23, 24, 25, 26, 27, 28, 29, 30, 31, 32, 33, 34, 35, 36, 37, 38, 39, 40, 41, 42, 43, 44, 45, 46, 47, 48, 49, 50, 51, 52, 53, 54, 55, 56] (by decide +kernel) (by decide +kernel)
set_option maxRecDepth 20000 in
theorem gX7_slats_X7_slatsOfAll : GoodIn wsX7_slats (wsV RX7 186 RX7 yX7_slatsOfAll wsX7_slatsOfAll) := goodIn_app (goodIn_of _ (by decide +kernel)) ggX7_slats_X7_slatsOfAll
theorem dX7_slats_0 : decode cX7_slats 0 = .ok (.aload_n 0, 1) := by decide +kernel
theorem dX7_slats_1 : decode cX7_slats 1 = .ok (.iconst 0, 1) := by decide +kernel
theorem dX7_slats_2 : decode cX7_slats 2 = .ok (.putfield 93, 3) := by decide +kernel
theorem dX7_slats_5 : decode cX7_slats 5 = .ok (.aload_n 0, 1) := by decide +kernel
theorem dX7_slats_6 : decode cX7_slats 6 = .ok (.iload_n 1, 1) := by decide +kernel
theorem dX7_slats_7 : decode cX7_slats 7 = .ok (.iconst 0, 1) := by decide +kernel
theorem dX7_slats_8 : decode cX7_slats 8 = .ok (.bipush 9, 2) := by decide +kernel
theorem dX7_slats_10 : decode cX7_slats 10 = .ok (.invokestatic 96, 3) := by decide +kernel
theorem dX7_slats_13 : decode cX7_slats 13 = .ok (.ifCond .eq 14, 3) := by decide +kernel
theorem dX7_slats_16 : decode cX7_slats 16 = .ok (.iload_n 2, 1) := by decide +kernel
theorem dX7_slats_17 : decode cX7_slats 17 = .ok (.iconst 0, 1) := by decide +kernel
theorem dX7_slats_18 : decode cX7_slats 18 = .ok (.sipush 200, 3) := by decide +kernel
theorem dX7_slats_21 : decode cX7_slats 21 = .ok (.invokestatic 96, 3) := by decide +kernel
theorem dX7_slats_24 : decode cX7_slats 24 = .ok (.ifCond .ne 7, 3) := by decide +kernel
theorem dX7_slats_27 : decode cX7_slats 27 = .ok (.iconst 1, 1) := by decide +kernel
theorem dX7_slats_28 : decode cX7_slats 28 = .ok (.goto 4, 3) := by decide +kernel
theorem dX7_slats_31 : decode cX7_slats 31 = .ok (.iconst 0, 1) := by decide +kernel
theorem dX7_slats_32 : decode cX7_slats 32 = .ok (.iconst 1, 1) := by decide +kernel
theorem dX7_slats_33 : decode cX7_slats 33 = .ok (.invokevirtual 100, 3) := by decide +kernel
theorem dX7_slats_36 : decode cX7_slats 36 = .ok (.ifCond .eq 5, 3) := by decide +kernel
theorem dX7_slats_39 : decode cX7_slats 39 = .ok (.iconst 0, 1) := by decide +kernel
theorem dX7_slats_40 : decode cX7_slats 40 = .ok (.ireturn, 1) := by decide +kernel
theorem dX7_slats_41 : decode cX7_slats 41 = .ok (.aload_n 0, 1) := by decide +kernel
theorem dX7_slats_42 : decode cX7_slats 42 = .ok (.getfield 62, 3) := by decide +kernel
theorem dX7_slats_45 : decode cX7_slats 45 = .ok (.iload_n 1, 1) := by decide +kernel
theorem dX7_slats_46 : decode cX7_slats 46 = .ok (.iload_n 2, 1) := by decide +kernel
theorem dX7_slats_47 : decode cX7_slats 47 = .ok (.iastore, 1) := by decide +kernel
theorem dX7_slats_48 : decode cX7_slats 48 = .ok (.aload_n 0, 1) := by decide +kernel
theorem dX7_slats_49 : decode cX7_slats 49 = .ok (.invokevirtual 186, 3) := by decide +kernel
theorem dX7_slats_52 : decode cX7_slats 52 = .ok (.ireturn, 1) := by decide +kernel
set_option maxRecDepth 20000 in
theorem ggX7_grade_X7_in : GoodIn wsX7_grade wsX7_in := goodIn_r _ [9] (by decide +kernel) (by decide +kernel)
set_option maxRecDepth 20000 in
theorem gX7_grade_X7_in : GoodIn wsX7_grade (va_wsS RX7 96 yX7_in wsX7_in) := goodIn_app (goodIn_of _ (by decide +kernel)) ggX7_grade_X7_in
set_option maxRecDepth 20000 in
theorem ggX7_grade_X7_throwsIf : GoodIn wsX7_grade wsX7_throwsIf := goodIn_r _ [13, 1, 14, 15, 16, 17, 18, 19, 20, 21, 22, 23, 24, 25, 26, 27, 28, 29, 30, 31, 32, 33, 34, 35, 36, 37, 38, 39, 40, 41, 42, 43, 44, 45, 46, 47, 48, 49, 50, 51, 52, 53, 54, 55] (by decide +kernel) (by decide +kernel)
set_option maxRecDepth 20000 in
theorem gX7_grade_X7_throwsIf : GoodIn wsX7_grade (wsV RX7 100 RX7 yX7_throwsIf wsX7_throwsIf) := goodIn_app (goodIn_of _ (by decide +kernel)) ggX7_grade_X7_throwsIf
theorem dX7_grade_0 : decode cX7_grade 0 = .ok (.aload_n 0, 1) := by decide +kernel
theorem dX7_grade_1 : decode cX7_grade 1 = .ok (.iconst 0, 1) := by decide +kernel
theorem dX7_grade_2 : decode cX7_grade 2 = .ok (.putfield 93, 3) := by decide +kernel
theorem dX7_grade_5 : decode cX7_grade 5 = .ok (.aload_n 0, 1) := by decide +kernel
theorem dX7_grade_6 : decode cX7_grade 6 = .ok (.iload_n 1, 1) := by decide +kernel
theorem dX7_grade_7 : decode cX7_grade 7 = .ok (.iconst 0, 1) := by decide +kernel
theorem dX7_grade_8 : decode cX7_grade 8 = .ok (.bipush 9, 2) := by decide +kernel
theorem dX7_grade_10 : decode cX7_grade 10 = .ok (.invokestatic 96, 3) := by decide +kernel
theorem dX7_grade_13 : decode cX7_grade 13 = .ok (.ifCond .eq 25, 3) := by decide +kernel
theorem dX7_grade_16 : decode cX7_grade 16 = .ok (.iload_n 2, 1) := by decide +kernel
theorem dX7_grade_17 : decode cX7_grade 17 = .ok (.iconst 1, 1) := by decide +kernel
theorem dX7_grade_18 : decode cX7_grade 18 = .ok (.sipush 1000, 3) := by decide +kernel
theorem dX7_grade_21 : decode cX7_grade 21 = .ok (.invokestatic 96, 3) := by decide +kernel
theorem dX7_grade_24 : decode cX7_grade 24 = .ok (.ifCond .eq 14, 3) := by decide +kernel
theorem dX7_grade_27 : decode cX7_grade 27 = .ok (.iload_n 3, 1) := by decide +kernel
theorem dX7_grade_28 : decode cX7_grade 28 = .ok (.iconst 0, 1) := by decide +kernel
theorem dX7_grade_29 : decode cX7_grade 29 = .ok (.sipush 500, 3) := by decide +kernel
theorem dX7_grade_32 : decode cX7_grade 32 = .ok (.invokestatic 96, 3) := by decide +kernel
theorem dX7_grade_35 : decode cX7_grade 35 = .ok (.ifCond .ne 7, 3) := by decide +kernel
theorem dX7_grade_38 : decode cX7_grade 38 = .ok (.iconst 1, 1) := by decide +kernel
theorem dX7_grade_39 : decode cX7_grade 39 = .ok (.goto 4, 3) := by decide +kernel
theorem dX7_grade_42 : decode cX7_grade 42 = .ok (.iconst 0, 1) := by decide +kernel
theorem dX7_grade_43 : decode cX7_grade 43 = .ok (.iconst 1, 1) := by decide +kernel
theorem dX7_grade_44 : decode cX7_grade 44 = .ok (.invokevirtual 100, 3) := by decide +kernel
theorem dX7_grade_47 : decode cX7_grade 47 = .ok (.ifCond .eq 5, 3) := by decide +kernel
theorem dX7_grade_50 : decode cX7_grade 50 = .ok (.iconst 0, 1) := by decide +kernel
theorem dX7_grade_51 : decode cX7_grade 51 = .ok (.ireturn, 1) := by decide +kernel
theorem dX7_grade_52 : decode cX7_grade 52 = .ok (.aload_n 0, 1) := by decide +kernel
theorem dX7_grade_53 : decode cX7_grade 53 = .ok (.getfield 190, 3) := by decide +kernel
theorem dX7_grade_56 : decode cX7_grade 56 = .ok (.bipush 6, 2) := by decide +kernel
theorem dX7_grade_58 : decode cX7_grade 58 = .ok (.if_icmp .ne 5, 3) := by decide +kernel
theorem dX7_grade_61 : decode cX7_grade 61 = .ok (.iconst (-1), 1) := by decide +kernel
theorem dX7_grade_62 : decode cX7_grade 62 = .ok (.ireturn, 1) := by decide +kernel
theorem dX7_grade_63 : decode cX7_grade 63 = .ok (.aload_n 0, 1) := by decide +kernel
theorem dX7_grade_64 : decode cX7_grade 64 = .ok (.getfield 65, 3) := by decide +kernel
theorem dX7_grade_67 : decode cX7_grade 67 = .ok (.aload_n 0, 1) := by decide +kernel
theorem dX7_grade_68 : decode cX7_grade 68 = .ok (.getfield 190, 3) := by decide +kernel
theorem dX7_grade_71 : decode cX7_grade 71 = .ok (.iload_n 1, 1) := by decide +kernel
theorem dX7_grade_72 : decode cX7_grade 72 = .ok (.iastore, 1) := by decide +kernel
theorem dX7_grade_73 : decode cX7_grade 73 = .ok (.aload_n 0, 1) := by decide +kernel
theorem dX7_grade_74 : decode cX7_grade 74 = .ok (.getfield 68, 3) := by decide +kernel
theorem dX7_grade_77 : decode cX7_grade 77 = .ok (.aload_n 0, 1) := by decide +kernel
theorem dX7_grade_78 : decode cX7_grade 78 = .ok (.getfield 190, 3) := by decide +kernel
theorem dX7_grade_81 : decode cX7_grade 81 = .ok (.iload_n 2, 1) := by decide +kernel
theorem dX7_grade_82 : decode cX7_grade 82 = .ok (.iastore, 1) := by decide +kernel
theorem dX7_grade_83 : decode cX7_grade 83 = .ok (.aload_n 0, 1) := by decide +kernel
theorem dX7_grade_84 : decode cX7_grade 84 = .ok (.getfield 71, 3) := by decide +kernel
theorem dX7_grade_87 : decode cX7_grade 87 = .ok (.aload_n 0, 1) := by decide +kernel
theorem dX7_grade_88 : decode cX7_grade 88 = .ok (.getfield 190, 3) := by decide +kernel
theorem dX7_grade_91 : decode cX7_grade 91 = .ok (.iload_n 3, 1) := by decide +kernel
theorem dX7_grade_92 : decode cX7_grade 92 = .ok (.iastore, 1) := by decide +kernel
theorem dX7_grade_93 : decode cX7_grade 93 = .ok (.aload_n 0, 1) := by decide +kernel
theorem dX7_grade_94 : decode cX7_grade 94 = .ok (.dup, 1) := by decide +kernel
theorem dX7_grade_95 : decode cX7_grade 95 = .ok (.getfield 190, 3) := by decide +kernel
theorem dX7_grade_98 : decode cX7_grade 98 = .ok (.iconst 1, 1) := by decide +kernel
theorem dX7_grade_99 : decode cX7_grade 99 = .ok (.iadd, 1) := by decide +kernel
theorem dX7_grade_100 : decode cX7_grade 100 = .ok (.putfield 190, 3) := by decide +kernel
theorem dX7_grade_103 : decode cX7_grade 103 = .ok (.aload_n 0, 1) := by decide +kernel
theorem dX7_grade_104 : decode cX7_grade 104 = .ok (.getfield 190, 3) := by decide +kernel
theorem dX7_grade_107 : decode cX7_grade 107 = .ok (.iconst 1, 1) := by decide +kernel
theorem dX7_grade_108 : decode cX7_grade 108 = .ok (.isub, 1) := by decide +kernel
theorem dX7_grade_109 : decode cX7_grade 109 = .ok (.ireturn, 1) := by decide +kernel
theorem dX7_ungrade_0 : decode cX7_ungrade 0 = .ok (.aload_n 0, 1) := by decide +kernel
theorem dX7_ungrade_1 : decode cX7_ungrade 1 = .ok (.iconst 0, 1) := by decide +kernel
theorem dX7_ungrade_2 : decode cX7_ungrade 2 = .ok (.putfield 93, 3) := by decide +kernel
theorem dX7_ungrade_5 : decode cX7_ungrade 5 = .ok (.aload_n 0, 1) := by decide +kernel
theorem dX7_ungrade_6 : decode cX7_ungrade 6 = .ok (.getfield 190, 3) := by decide +kernel
theorem dX7_ungrade_9 : decode cX7_ungrade 9 = .ok (.istore_n 1, 1) := by decide +kernel
theorem dX7_ungrade_10 : decode cX7_ungrade 10 = .ok (.aload_n 0, 1) := by decide +kernel
theorem dX7_ungrade_11 : decode cX7_ungrade 11 = .ok (.iconst 0, 1) := by decide +kernel
theorem dX7_ungrade_12 : decode cX7_ungrade 12 = .ok (.putfield 190, 3) := by decide +kernel
theorem dX7_ungrade_15 : decode cX7_ungrade 15 = .ok (.iload_n 1, 1) := by decide +kernel
theorem dX7_ungrade_16 : decode cX7_ungrade 16 = .ok (.ireturn, 1) := by decide +kernel
theorem dX7_dearest_0 : decode cX7_dearest 0 = .ok (.iconst (-1), 1) := by decide +kernel
theorem dX7_dearest_1 : decode cX7_dearest 1 = .ok (.istore_n 1, 1) := by decide +kernel
theorem dX7_dearest_2 : decode cX7_dearest 2 = .ok (.iconst 0, 1) := by decide +kernel
theorem dX7_dearest_3 : decode cX7_dearest 3 = .ok (.istore_n 2, 1) := by decide +kernel
theorem dX7_dearest_4 : decode cX7_dearest 4 = .ok (.iload_n 2, 1) := by decide +kernel
theorem dX7_dearest_5 : decode cX7_dearest 5 = .ok (.aload_n 0, 1) := by decide +kernel
theorem dX7_dearest_6 : decode cX7_dearest 6 = .ok (.getfield 190, 3) := by decide +kernel
theorem dX7_dearest_9 : decode cX7_dearest 9 = .ok (.if_icmp .ge 39, 3) := by decide +kernel
theorem dX7_dearest_12 : decode cX7_dearest 12 = .ok (.aload_n 0, 1) := by decide +kernel
theorem dX7_dearest_13 : decode cX7_dearest 13 = .ok (.getfield 77, 3) := by decide +kernel
theorem dX7_dearest_16 : decode cX7_dearest 16 = .ok (.iload_n 2, 1) := by decide +kernel
theorem dX7_dearest_17 : decode cX7_dearest 17 = .ok (.baload, 1) := by decide +kernel
theorem dX7_dearest_18 : decode cX7_dearest 18 = .ok (.ifCond .ne 24, 3) := by decide +kernel
theorem dX7_dearest_21 : decode cX7_dearest 21 = .ok (.iload_n 1, 1) := by decide +kernel
theorem dX7_dearest_22 : decode cX7_dearest 22 = .ok (.ifCond .lt 18, 3) := by decide +kernel
theorem dX7_dearest_25 : decode cX7_dearest 25 = .ok (.aload_n 0, 1) := by decide +kernel
theorem dX7_dearest_26 : decode cX7_dearest 26 = .ok (.getfield 68, 3) := by decide +kernel
theorem dX7_dearest_29 : decode cX7_dearest 29 = .ok (.iload_n 2, 1) := by decide +kernel
theorem dX7_dearest_30 : decode cX7_dearest 30 = .ok (.iaload, 1) := by decide +kernel
theorem dX7_dearest_31 : decode cX7_dearest 31 = .ok (.aload_n 0, 1) := by decide +kernel
theorem dX7_dearest_32 : decode cX7_dearest 32 = .ok (.getfield 68, 3) := by decide +kernel
theorem dX7_dearest_35 : decode cX7_dearest 35 = .ok (.iload_n 1, 1) := by decide +kernel
theorem dX7_dearest_36 : decode cX7_dearest 36 = .ok (.iaload, 1) := by decide +kernel
theorem dX7_dearest_37 : decode cX7_dearest 37 = .ok (.if_icmp .le 5, 3) := by decide +kernel
theorem dX7_dearest_40 : decode cX7_dearest 40 = .ok (.iload_n 2, 1) := by decide +kernel
theorem dX7_dearest_41 : decode cX7_dearest 41 = .ok (.istore_n 1, 1) := by decide +kernel
theorem dX7_dearest_42 : decode cX7_dearest 42 = .ok (.iinc 2 1, 3) := by decide +kernel
theorem dX7_dearest_45 : decode cX7_dearest 45 = .ok (.goto (-41), 3) := by decide +kernel
theorem dX7_dearest_48 : decode cX7_dearest 48 = .ok (.iload_n 1, 1) := by decide +kernel
theorem dX7_dearest_49 : decode cX7_dearest 49 = .ok (.ireturn, 1) := by decide +kernel
set_option maxRecDepth 20000 in
theorem ggX7_most_X7_dearest : GoodIn wsX7_most wsX7_dearest := goodIn_r _ [16, 17, 4, 11, 18, 19, 20, 21, 22, 23, 24, 25, 26, 27, 28, 29, 30, 31, 32, 33, 34, 35, 36, 37, 38, 39, 40, 41, 42, 43, 44, 45, 46, 47, 48, 49, 50, 51, 52, 53, 54, 55, 56, 57, 58, 59] (by decide +kernel) (by decide +kernel)
set_option maxRecDepth 20000 in
theorem gX7_most_X7_dearest : GoodIn wsX7_most (wsV RX7 193 RX7 yX7_dearest wsX7_dearest) := goodIn_app (goodIn_of _ (by decide +kernel)) ggX7_most_X7_dearest
theorem dX7_most_0 : decode cX7_most 0 = .ok (.aload_n 0, 1) := by decide +kernel
theorem dX7_most_1 : decode cX7_most 1 = .ok (.iconst 0, 1) := by decide +kernel
theorem dX7_most_2 : decode cX7_most 2 = .ok (.putfield 93, 3) := by decide +kernel
theorem dX7_most_5 : decode cX7_most 5 = .ok (.iconst 0, 1) := by decide +kernel
theorem dX7_most_6 : decode cX7_most 6 = .ok (.istore_n 1, 1) := by decide +kernel
theorem dX7_most_7 : decode cX7_most 7 = .ok (.bipush 9, 2) := by decide +kernel
theorem dX7_most_9 : decode cX7_most 9 = .ok (.istore_n 2, 1) := by decide +kernel
theorem dX7_most_10 : decode cX7_most 10 = .ok (.iload_n 2, 1) := by decide +kernel
theorem dX7_most_11 : decode cX7_most 11 = .ok (.ifCond .lt 25, 3) := by decide +kernel
theorem dX7_most_14 : decode cX7_most 14 = .ok (.iload_n 1, 1) := by decide +kernel
theorem dX7_most_15 : decode cX7_most 15 = .ok (.aload_n 0, 1) := by decide +kernel
theorem dX7_most_16 : decode cX7_most 16 = .ok (.getfield 62, 3) := by decide +kernel
theorem dX7_most_19 : decode cX7_most 19 = .ok (.iload_n 2, 1) := by decide +kernel
theorem dX7_most_20 : decode cX7_most 20 = .ok (.iaload, 1) := by decide +kernel
theorem dX7_most_21 : decode cX7_most 21 = .ok (.iadd, 1) := by decide +kernel
theorem dX7_most_22 : decode cX7_most 22 = .ok (.istore_n 1, 1) := by decide +kernel
theorem dX7_most_23 : decode cX7_most 23 = .ok (.aload_n 0, 1) := by decide +kernel
theorem dX7_most_24 : decode cX7_most 24 = .ok (.getfield 74, 3) := by decide +kernel
theorem dX7_most_27 : decode cX7_most 27 = .ok (.iload_n 2, 1) := by decide +kernel
theorem dX7_most_28 : decode cX7_most 28 = .ok (.iload_n 1, 1) := by decide +kernel
theorem dX7_most_29 : decode cX7_most 29 = .ok (.iastore, 1) := by decide +kernel
theorem dX7_most_30 : decode cX7_most 30 = .ok (.iinc 2 (-1), 3) := by decide +kernel
theorem dX7_most_33 : decode cX7_most 33 = .ok (.goto (-23), 3) := by decide +kernel
theorem dX7_most_36 : decode cX7_most 36 = .ok (.iconst 0, 1) := by decide +kernel
theorem dX7_most_37 : decode cX7_most 37 = .ok (.istore_n 2, 1) := by decide +kernel
theorem dX7_most_38 : decode cX7_most 38 = .ok (.iload_n 2, 1) := by decide +kernel
theorem dX7_most_39 : decode cX7_most 39 = .ok (.bipush 6, 2) := by decide +kernel
theorem dX7_most_41 : decode cX7_most 41 = .ok (.if_icmp .ge 16, 3) := by decide +kernel
theorem dX7_most_44 : decode cX7_most 44 = .ok (.aload_n 0, 1) := by decide +kernel
theorem dX7_most_45 : decode cX7_most 45 = .ok (.getfield 77, 3) := by decide +kernel
theorem dX7_most_48 : decode cX7_most 48 = .ok (.iload_n 2, 1) := by decide +kernel
theorem dX7_most_49 : decode cX7_most 49 = .ok (.iconst 0, 1) := by decide +kernel
theorem dX7_most_50 : decode cX7_most 50 = .ok (.bastore, 1) := by decide +kernel
theorem dX7_most_51 : decode cX7_most 51 = .ok (.iinc 2 1, 3) := by decide +kernel
theorem dX7_most_54 : decode cX7_most 54 = .ok (.goto (-16), 3) := by decide +kernel
theorem dX7_most_57 : decode cX7_most 57 = .ok (.iconst 0, 1) := by decide +kernel
theorem dX7_most_58 : decode cX7_most 58 = .ok (.istore_n 2, 1) := by decide +kernel
theorem dX7_most_59 : decode cX7_most 59 = .ok (.aload_n 0, 1) := by decide +kernel
theorem dX7_most_60 : decode cX7_most 60 = .ok (.invokevirtual 193, 3) := by decide +kernel
theorem dX7_most_63 : decode cX7_most 63 = .ok (.istore_n 3, 1) := by decide +kernel
theorem dX7_most_64 : decode cX7_most 64 = .ok (.iload_n 3, 1) := by decide +kernel
theorem dX7_most_65 : decode cX7_most 65 = .ok (.ifCond .lt 104, 3) := by decide +kernel
theorem dX7_most_68 : decode cX7_most 68 = .ok (.aload_n 0, 1) := by decide +kernel
theorem dX7_most_69 : decode cX7_most 69 = .ok (.getfield 77, 3) := by decide +kernel
theorem dX7_most_72 : decode cX7_most 72 = .ok (.iload_n 3, 1) := by decide +kernel
theorem dX7_most_73 : decode cX7_most 73 = .ok (.iconst 1, 1) := by decide +kernel
theorem dX7_most_74 : decode cX7_most 74 = .ok (.bastore, 1) := by decide +kernel
theorem dX7_most_75 : decode cX7_most 75 = .ok (.aload_n 0, 1) := by decide +kernel
theorem dX7_most_76 : decode cX7_most 76 = .ok (.getfield 71, 3) := by decide +kernel
theorem dX7_most_79 : decode cX7_most 79 = .ok (.iload_n 3, 1) := by decide +kernel
theorem dX7_most_80 : decode cX7_most 80 = .ok (.iaload, 1) := by decide +kernel
theorem dX7_most_81 : decode cX7_most 81 = .ok (.istore 4, 2) := by decide +kernel
theorem dX7_most_83 : decode cX7_most 83 = .ok (.iconst 0, 1) := by decide +kernel
theorem dX7_most_84 : decode cX7_most 84 = .ok (.istore 5, 2) := by decide +kernel
theorem dX7_most_86 : decode cX7_most 86 = .ok (.iload 5, 2) := by decide +kernel
theorem dX7_most_88 : decode cX7_most 88 = .ok (.aload_n 0, 1) := by decide +kernel
theorem dX7_most_89 : decode cX7_most 89 = .ok (.getfield 65, 3) := by decide +kernel
theorem dX7_most_92 : decode cX7_most 92 = .ok (.iload_n 3, 1) := by decide +kernel
theorem dX7_most_93 : decode cX7_most 93 = .ok (.iaload, 1) := by decide +kernel
theorem dX7_most_94 : decode cX7_most 94 = .ok (.if_icmp .gt 23, 3) := by decide +kernel
theorem dX7_most_97 : decode cX7_most 97 = .ok (.iload 4, 2) := by decide +kernel
theorem dX7_most_99 : decode cX7_most 99 = .ok (.aload_n 0, 1) := by decide +kernel
theorem dX7_most_100 : decode cX7_most 100 = .ok (.getfield 74, 3) := by decide +kernel
theorem dX7_most_103 : decode cX7_most 103 = .ok (.iload 5, 2) := by decide +kernel
theorem dX7_most_105 : decode cX7_most 105 = .ok (.iaload, 1) := by decide +kernel
theorem dX7_most_106 : decode cX7_most 106 = .ok (.invokestatic 158, 3) := by decide +kernel
theorem dX7_most_109 : decode cX7_most 109 = .ok (.istore 4, 2) := by decide +kernel
theorem dX7_most_111 : decode cX7_most 111 = .ok (.iinc 5 1, 3) := by decide +kernel
theorem dX7_most_114 : decode cX7_most 114 = .ok (.goto (-28), 3) := by decide +kernel
theorem dX7_most_117 : decode cX7_most 117 = .ok (.iconst 0, 1) := by decide +kernel
theorem dX7_most_118 : decode cX7_most 118 = .ok (.istore 5, 2) := by decide +kernel
theorem dX7_most_120 : decode cX7_most 120 = .ok (.iload 5, 2) := by decide +kernel
theorem dX7_most_122 : decode cX7_most 122 = .ok (.aload_n 0, 1) := by decide +kernel
theorem dX7_most_123 : decode cX7_most 123 = .ok (.getfield 65, 3) := by decide +kernel
theorem dX7_most_126 : decode cX7_most 126 = .ok (.iload_n 3, 1) := by decide +kernel
theorem dX7_most_127 : decode cX7_most 127 = .ok (.iaload, 1) := by decide +kernel
theorem dX7_most_128 : decode cX7_most 128 = .ok (.if_icmp .gt 21, 3) := by decide +kernel
theorem dX7_most_131 : decode cX7_most 131 = .ok (.aload_n 0, 1) := by decide +kernel
theorem dX7_most_132 : decode cX7_most 132 = .ok (.getfield 74, 3) := by decide +kernel
theorem dX7_most_135 : decode cX7_most 135 = .ok (.iload 5, 2) := by decide +kernel
theorem dX7_most_137 : decode cX7_most 137 = .ok (.dup2, 1) := by decide +kernel
theorem dX7_most_138 : decode cX7_most 138 = .ok (.iaload, 1) := by decide +kernel
theorem dX7_most_139 : decode cX7_most 139 = .ok (.iload 4, 2) := by decide +kernel
theorem dX7_most_141 : decode cX7_most 141 = .ok (.isub, 1) := by decide +kernel
theorem dX7_most_142 : decode cX7_most 142 = .ok (.iastore, 1) := by decide +kernel
theorem dX7_most_143 : decode cX7_most 143 = .ok (.iinc 5 1, 3) := by decide +kernel
theorem dX7_most_146 : decode cX7_most 146 = .ok (.goto (-26), 3) := by decide +kernel
theorem dX7_most_149 : decode cX7_most 149 = .ok (.iload_n 2, 1) := by decide +kernel
theorem dX7_most_150 : decode cX7_most 150 = .ok (.iload 4, 2) := by decide +kernel
theorem dX7_most_152 : decode cX7_most 152 = .ok (.aload_n 0, 1) := by decide +kernel
theorem dX7_most_153 : decode cX7_most 153 = .ok (.getfield 68, 3) := by decide +kernel
theorem dX7_most_156 : decode cX7_most 156 = .ok (.iload_n 3, 1) := by decide +kernel
theorem dX7_most_157 : decode cX7_most 157 = .ok (.iaload, 1) := by decide +kernel
theorem dX7_most_158 : decode cX7_most 158 = .ok (.imul, 1) := by decide +kernel
theorem dX7_most_159 : decode cX7_most 159 = .ok (.iadd, 1) := by decide +kernel
theorem dX7_most_160 : decode cX7_most 160 = .ok (.istore_n 2, 1) := by decide +kernel
theorem dX7_most_161 : decode cX7_most 161 = .ok (.aload_n 0, 1) := by decide +kernel
theorem dX7_most_162 : decode cX7_most 162 = .ok (.invokevirtual 193, 3) := by decide +kernel
theorem dX7_most_165 : decode cX7_most 165 = .ok (.istore_n 3, 1) := by decide +kernel
theorem dX7_most_166 : decode cX7_most 166 = .ok (.goto (-102), 3) := by decide +kernel
theorem dX7_most_169 : decode cX7_most 169 = .ok (.iload_n 2, 1) := by decide +kernel
theorem dX7_most_170 : decode cX7_most 170 = .ok (.ireturn, 1) := by decide +kernel
set_option maxRecDepth 20000 in
theorem ggX7_noColour_X7_in : GoodIn wsX7_noColour wsX7_in := goodIn_r _ [4] (by decide +kernel) (by decide +kernel)
set_option maxRecDepth 20000 in
theorem gX7_noColour_X7_in : GoodIn wsX7_noColour (va_wsS RX7 96 yX7_in wsX7_in) := goodIn_app (goodIn_of _ (by decide +kernel)) ggX7_noColour_X7_in
theorem dX7_noColour_0 : decode cX7_noColour 0 = .ok (.iload_n 0, 1) := by decide +kernel
theorem dX7_noColour_1 : decode cX7_noColour 1 = .ok (.iconst 0, 1) := by decide +kernel
theorem dX7_noColour_2 : decode cX7_noColour 2 = .ok (.iconst 5, 1) := by decide +kernel
theorem dX7_noColour_3 : decode cX7_noColour 3 = .ok (.invokestatic 96, 3) := by decide +kernel
theorem dX7_noColour_6 : decode cX7_noColour 6 = .ok (.ifCond .ne 7, 3) := by decide +kernel
theorem dX7_noColour_9 : decode cX7_noColour 9 = .ok (.iconst 1, 1) := by decide +kernel
theorem dX7_noColour_10 : decode cX7_noColour 10 = .ok (.goto 4, 3) := by decide +kernel
theorem dX7_noColour_13 : decode cX7_noColour 13 = .ok (.iconst 0, 1) := by decide +kernel
theorem dX7_noColour_14 : decode cX7_noColour 14 = .ok (.ireturn, 1) := by decide +kernel
set_option maxRecDepth 20000 in
theorem ggX7_change_X7_noColour : GoodIn wsX7_change wsX7_noColour := goodIn_r _ [6, 7, 8, 5, 9] (by decide +kernel) (by decide +kernel)
set_option maxRecDepth 20000 in
theorem gX7_change_X7_noColour : GoodIn wsX7_change (va_wsS RX7 196 yX7_noColour wsX7_noColour) := goodIn_app (goodIn_of _ (by decide +kernel)) ggX7_change_X7_noColour
set_option maxRecDepth 20000 in
theorem ggX7_change_X7_throwsIf : GoodIn wsX7_change wsX7_throwsIf := goodIn_r _ [13, 1, 14, 15, 16, 17, 18, 19, 20, 21, 22, 23, 24, 25, 26, 27, 28, 29, 30, 31, 32, 33, 34, 35, 36, 37, 38, 39, 40, 41, 42, 43, 44, 45, 46, 47, 48, 49, 50, 51, 52, 53, 54, 55] (by decide +kernel) (by decide +kernel)
set_option maxRecDepth 20000 in
theorem gX7_change_X7_throwsIf : GoodIn wsX7_change (wsV RX7 100 RX7 yX7_throwsIf wsX7_throwsIf) := goodIn_app (goodIn_of _ (by decide +kernel)) ggX7_change_X7_throwsIf
set_option maxRecDepth 20000 in
theorem ggX7_change_X7_in : GoodIn wsX7_change wsX7_in := goodIn_r _ [9] (by decide +kernel) (by decide +kernel)
set_option maxRecDepth 20000 in
theorem gX7_change_X7_in : GoodIn wsX7_change (va_wsS RX7 96 yX7_in wsX7_in) := goodIn_app (goodIn_of _ (by decide +kernel)) ggX7_change_X7_in
theorem dX7_change_0 : decode cX7_change 0 = .ok (.aload_n 0, 1) := by decide +kernel
theorem dX7_change_1 : decode cX7_change 1 = .ok (.iconst 0, 1) := by decide +kernel
theorem dX7_change_2 : decode cX7_change 2 = .ok (.putfield 93, 3) := by decide +kernel
theorem dX7_change_5 : decode cX7_change 5 = .ok (.aload_n 0, 1) := by decide +kernel
theorem dX7_change_6 : decode cX7_change 6 = .ok (.iload_n 1, 1) := by decide +kernel
theorem dX7_change_7 : decode cX7_change 7 = .ok (.invokestatic 196, 3) := by decide +kernel
theorem dX7_change_10 : decode cX7_change 10 = .ok (.ifCond .ne 10, 3) := by decide +kernel
theorem dX7_change_13 : decode cX7_change 13 = .ok (.iload_n 2, 1) := by decide +kernel
theorem dX7_change_14 : decode cX7_change 14 = .ok (.invokestatic 196, 3) := by decide +kernel
theorem dX7_change_17 : decode cX7_change 17 = .ok (.ifCond .eq 7, 3) := by decide +kernel
theorem dX7_change_20 : decode cX7_change 20 = .ok (.iconst 1, 1) := by decide +kernel
theorem dX7_change_21 : decode cX7_change 21 = .ok (.goto 4, 3) := by decide +kernel
theorem dX7_change_24 : decode cX7_change 24 = .ok (.iconst 0, 1) := by decide +kernel
theorem dX7_change_25 : decode cX7_change 25 = .ok (.iconst 1, 1) := by decide +kernel
theorem dX7_change_26 : decode cX7_change 26 = .ok (.invokevirtual 100, 3) := by decide +kernel
theorem dX7_change_29 : decode cX7_change 29 = .ok (.ifCond .ne 32, 3) := by decide +kernel
theorem dX7_change_32 : decode cX7_change 32 = .ok (.aload_n 0, 1) := by decide +kernel
theorem dX7_change_33 : decode cX7_change 33 = .ok (.iload_n 3, 1) := by decide +kernel
theorem dX7_change_34 : decode cX7_change 34 = .ok (.iconst 0, 1) := by decide +kernel
theorem dX7_change_35 : decode cX7_change 35 = .ok (.sipush 1000, 3) := by decide +kernel
theorem dX7_change_38 : decode cX7_change 38 = .ok (.invokestatic 96, 3) := by decide +kernel
theorem dX7_change_41 : decode cX7_change 41 = .ok (.ifCond .eq 8, 3) := by decide +kernel
theorem dX7_change_44 : decode cX7_change 44 = .ok (.iload_n 1, 1) := by decide +kernel
theorem dX7_change_45 : decode cX7_change 45 = .ok (.iload_n 2, 1) := by decide +kernel
theorem dX7_change_46 : decode cX7_change 46 = .ok (.if_icmp .ne 7, 3) := by decide +kernel
theorem dX7_change_49 : decode cX7_change 49 = .ok (.iconst 1, 1) := by decide +kernel
theorem dX7_change_50 : decode cX7_change 50 = .ok (.goto 4, 3) := by decide +kernel
theorem dX7_change_53 : decode cX7_change 53 = .ok (.iconst 0, 1) := by decide +kernel
theorem dX7_change_54 : decode cX7_change 54 = .ok (.iconst 2, 1) := by decide +kernel
theorem dX7_change_55 : decode cX7_change 55 = .ok (.invokevirtual 100, 3) := by decide +kernel
theorem dX7_change_58 : decode cX7_change 58 = .ok (.ifCond .eq 4, 3) := by decide +kernel
theorem dX7_change_61 : decode cX7_change 61 = .ok (.return_, 1) := by decide +kernel
theorem dX7_change_62 : decode cX7_change 62 = .ok (.aload_n 0, 1) := by decide +kernel
theorem dX7_change_63 : decode cX7_change 63 = .ok (.getfield 80, 3) := by decide +kernel
theorem dX7_change_66 : decode cX7_change 66 = .ok (.bipush 6, 2) := by decide +kernel
theorem dX7_change_68 : decode cX7_change 68 = .ok (.iload_n 1, 1) := by decide +kernel
theorem dX7_change_69 : decode cX7_change 69 = .ok (.imul, 1) := by decide +kernel
theorem dX7_change_70 : decode cX7_change 70 = .ok (.iload_n 2, 1) := by decide +kernel
theorem dX7_change_71 : decode cX7_change 71 = .ok (.iadd, 1) := by decide +kernel
theorem dX7_change_72 : decode cX7_change 72 = .ok (.iload_n 3, 1) := by decide +kernel
theorem dX7_change_73 : decode cX7_change 73 = .ok (.iastore, 1) := by decide +kernel
theorem dX7_change_74 : decode cX7_change 74 = .ok (.return_, 1) := by decide +kernel
set_option maxRecDepth 20000 in
theorem ggX7_job_X7_noColour : GoodIn wsX7_job wsX7_noColour := goodIn_r _ [7, 8, 9, 6, 10] (by decide +kernel) (by decide +kernel)
set_option maxRecDepth 20000 in
theorem gX7_job_X7_noColour : GoodIn wsX7_job (va_wsS RX7 196 yX7_noColour wsX7_noColour) := goodIn_app (goodIn_of _ (by decide +kernel)) ggX7_job_X7_noColour
set_option maxRecDepth 20000 in
theorem ggX7_job_X7_throwsIf : GoodIn wsX7_job wsX7_throwsIf := goodIn_r _ [14, 1, 15, 16, 17, 18, 19, 20, 21, 22, 23, 24, 25, 26, 27, 28, 29, 30, 31, 32, 33, 34, 35, 36, 37, 38, 39, 40, 41, 42, 43, 44, 45, 46, 47, 48, 49, 50, 51, 52, 53, 54, 55, 56] (by decide +kernel) (by decide +kernel)
set_option maxRecDepth 20000 in
theorem gX7_job_X7_throwsIf : GoodIn wsX7_job (wsV RX7 100 RX7 yX7_throwsIf wsX7_throwsIf) := goodIn_app (goodIn_of _ (by decide +kernel)) ggX7_job_X7_throwsIf
theorem dX7_job_0 : decode cX7_job 0 = .ok (.aload_n 0, 1) := by decide +kernel
theorem dX7_job_1 : decode cX7_job 1 = .ok (.iconst 0, 1) := by decide +kernel
theorem dX7_job_2 : decode cX7_job 2 = .ok (.putfield 93, 3) := by decide +kernel
theorem dX7_job_5 : decode cX7_job 5 = .ok (.aload_n 0, 1) := by decide +kernel
theorem dX7_job_6 : decode cX7_job 6 = .ok (.iload_n 1, 1) := by decide +kernel
theorem dX7_job_7 : decode cX7_job 7 = .ok (.invokestatic 196, 3) := by decide +kernel
theorem dX7_job_10 : decode cX7_job 10 = .ok (.iconst 1, 1) := by decide +kernel
theorem dX7_job_11 : decode cX7_job 11 = .ok (.invokevirtual 100, 3) := by decide +kernel
theorem dX7_job_14 : decode cX7_job 14 = .ok (.ifCond .eq 5, 3) := by decide +kernel
theorem dX7_job_17 : decode cX7_job 17 = .ok (.iconst 0, 1) := by decide +kernel
theorem dX7_job_18 : decode cX7_job 18 = .ok (.ireturn, 1) := by decide +kernel
theorem dX7_job_19 : decode cX7_job 19 = .ok (.aload_n 0, 1) := by decide +kernel
theorem dX7_job_20 : decode cX7_job 20 = .ok (.getfield 199, 3) := by decide +kernel
theorem dX7_job_23 : decode cX7_job 23 = .ok (.bipush 10, 2) := by decide +kernel
theorem dX7_job_25 : decode cX7_job 25 = .ok (.if_icmp .ne 5, 3) := by decide +kernel
theorem dX7_job_28 : decode cX7_job 28 = .ok (.iconst (-1), 1) := by decide +kernel
theorem dX7_job_29 : decode cX7_job 29 = .ok (.ireturn, 1) := by decide +kernel
theorem dX7_job_30 : decode cX7_job 30 = .ok (.aload_n 0, 1) := by decide +kernel
theorem dX7_job_31 : decode cX7_job 31 = .ok (.getfield 83, 3) := by decide +kernel
theorem dX7_job_34 : decode cX7_job 34 = .ok (.aload_n 0, 1) := by decide +kernel
theorem dX7_job_35 : decode cX7_job 35 = .ok (.getfield 199, 3) := by decide +kernel
theorem dX7_job_38 : decode cX7_job 38 = .ok (.iload_n 1, 1) := by decide +kernel
theorem dX7_job_39 : decode cX7_job 39 = .ok (.iastore, 1) := by decide +kernel
theorem dX7_job_40 : decode cX7_job 40 = .ok (.aload_n 0, 1) := by decide +kernel
theorem dX7_job_41 : decode cX7_job 41 = .ok (.dup, 1) := by decide +kernel
theorem dX7_job_42 : decode cX7_job 42 = .ok (.getfield 199, 3) := by decide +kernel
theorem dX7_job_45 : decode cX7_job 45 = .ok (.iconst 1, 1) := by decide +kernel
theorem dX7_job_46 : decode cX7_job 46 = .ok (.iadd, 1) := by decide +kernel
theorem dX7_job_47 : decode cX7_job 47 = .ok (.putfield 199, 3) := by decide +kernel
theorem dX7_job_50 : decode cX7_job 50 = .ok (.aload_n 0, 1) := by decide +kernel
theorem dX7_job_51 : decode cX7_job 51 = .ok (.getfield 199, 3) := by decide +kernel
theorem dX7_job_54 : decode cX7_job 54 = .ok (.ireturn, 1) := by decide +kernel
set_option maxRecDepth 20000 in
theorem ggX7_on_X7_noColour : GoodIn wsX7_on wsX7_noColour := goodIn_r _ [6, 7, 8, 5, 9] (by decide +kernel) (by decide +kernel)
set_option maxRecDepth 20000 in
theorem gX7_on_X7_noColour : GoodIn wsX7_on (va_wsS RX7 196 yX7_noColour wsX7_noColour) := goodIn_app (goodIn_of _ (by decide +kernel)) ggX7_on_X7_noColour
set_option maxRecDepth 20000 in
theorem ggX7_on_X7_throwsIf : GoodIn wsX7_on wsX7_throwsIf := goodIn_r _ [13, 1, 14, 15, 16, 17, 18, 19, 20, 21, 22, 23, 24, 25, 26, 27, 28, 29, 30, 31, 32, 33, 34, 35, 36, 37, 38, 39, 40, 41, 42, 43, 44, 45, 46, 47, 48, 49, 50, 51, 52, 53, 54, 55] (by decide +kernel) (by decide +kernel)
set_option maxRecDepth 20000 in
theorem gX7_on_X7_throwsIf : GoodIn wsX7_on (wsV RX7 100 RX7 yX7_throwsIf wsX7_throwsIf) := goodIn_app (goodIn_of _ (by decide +kernel)) ggX7_on_X7_throwsIf
theorem dX7_on_0 : decode cX7_on 0 = .ok (.aload_n 0, 1) := by decide +kernel
theorem dX7_on_1 : decode cX7_on 1 = .ok (.iconst 0, 1) := by decide +kernel
theorem dX7_on_2 : decode cX7_on 2 = .ok (.putfield 93, 3) := by decide +kernel
theorem dX7_on_5 : decode cX7_on 5 = .ok (.aload_n 0, 1) := by decide +kernel
theorem dX7_on_6 : decode cX7_on 6 = .ok (.iload_n 1, 1) := by decide +kernel
theorem dX7_on_7 : decode cX7_on 7 = .ok (.iconst (-1), 1) := by decide +kernel
theorem dX7_on_8 : decode cX7_on 8 = .ok (.if_icmp .eq 14, 3) := by decide +kernel
theorem dX7_on_11 : decode cX7_on 11 = .ok (.iload_n 1, 1) := by decide +kernel
theorem dX7_on_12 : decode cX7_on 12 = .ok (.invokestatic 196, 3) := by decide +kernel
theorem dX7_on_15 : decode cX7_on 15 = .ok (.ifCond .eq 7, 3) := by decide +kernel
theorem dX7_on_18 : decode cX7_on 18 = .ok (.iconst 1, 1) := by decide +kernel
theorem dX7_on_19 : decode cX7_on 19 = .ok (.goto 4, 3) := by decide +kernel
theorem dX7_on_22 : decode cX7_on 22 = .ok (.iconst 0, 1) := by decide +kernel
theorem dX7_on_23 : decode cX7_on 23 = .ok (.iconst 1, 1) := by decide +kernel
theorem dX7_on_24 : decode cX7_on 24 = .ok (.invokevirtual 100, 3) := by decide +kernel
theorem dX7_on_27 : decode cX7_on 27 = .ok (.ifCond .eq 4, 3) := by decide +kernel
theorem dX7_on_30 : decode cX7_on 30 = .ok (.return_, 1) := by decide +kernel
theorem dX7_on_31 : decode cX7_on 31 = .ok (.aload_n 0, 1) := by decide +kernel
theorem dX7_on_32 : decode cX7_on 32 = .ok (.iload_n 1, 1) := by decide +kernel
theorem dX7_on_33 : decode cX7_on 33 = .ok (.putfield 86, 3) := by decide +kernel
theorem dX7_on_36 : decode cX7_on 36 = .ok (.return_, 1) := by decide +kernel
theorem dX7_costs_0 : decode cX7_costs 0 = .ok (.iload_n 1, 1) := by decide +kernel
theorem dX7_costs_1 : decode cX7_costs 1 = .ok (.bipush 6, 2) := by decide +kernel
theorem dX7_costs_3 : decode cX7_costs 3 = .ok (.if_icmp .ne 7, 3) := by decide +kernel
theorem dX7_costs_6 : decode cX7_costs 6 = .ok (.iconst 0, 1) := by decide +kernel
theorem dX7_costs_7 : decode cX7_costs 7 = .ok (.goto 14, 3) := by decide +kernel
theorem dX7_costs_10 : decode cX7_costs 10 = .ok (.aload_n 0, 1) := by decide +kernel
theorem dX7_costs_11 : decode cX7_costs 11 = .ok (.getfield 80, 3) := by decide +kernel
theorem dX7_costs_14 : decode cX7_costs 14 = .ok (.bipush 6, 2) := by decide +kernel
theorem dX7_costs_16 : decode cX7_costs 16 = .ok (.iload_n 1, 1) := by decide +kernel
theorem dX7_costs_17 : decode cX7_costs 17 = .ok (.imul, 1) := by decide +kernel
theorem dX7_costs_18 : decode cX7_costs 18 = .ok (.iload_n 2, 1) := by decide +kernel
theorem dX7_costs_19 : decode cX7_costs 19 = .ok (.iadd, 1) := by decide +kernel
theorem dX7_costs_20 : decode cX7_costs 20 = .ok (.iaload, 1) := by decide +kernel
theorem dX7_costs_21 : decode cX7_costs 21 = .ok (.ireturn, 1) := by decide +kernel
set_option maxRecDepth 20000 in
theorem ggX7_next_X7_costs : GoodIn wsX7_next wsX7_costs := goodIn_r _ [7, 8, 9, 10, 11, 12, 13, 14, 15, 16, 17, 18, 19, 20, 21, 22, 23, 24, 25, 26, 27, 28, 29, 30, 31, 32, 33, 34, 35, 36, 37, 38, 39, 40, 41, 42, 43, 44, 45, 46, 47, 48, 49, 50] (by decide +kernel) (by decide +kernel)
set_option maxRecDepth 20000 in
theorem gX7_next_X7_costs : GoodIn wsX7_next (wsV RX7 202 RX7 yX7_costs wsX7_costs) := goodIn_app (goodIn_of _ (by decide +kernel)) ggX7_next_X7_costs
theorem dX7_next_0 : decode cX7_next 0 = .ok (.aload_n 0, 1) := by decide +kernel
theorem dX7_next_1 : decode cX7_next 1 = .ok (.iload_n 2, 1) := by decide +kernel
theorem dX7_next_2 : decode cX7_next 2 = .ok (.aload_n 0, 1) := by decide +kernel
theorem dX7_next_3 : decode cX7_next 3 = .ok (.getfield 83, 3) := by decide +kernel
theorem dX7_next_6 : decode cX7_next 6 = .ok (.iload_n 3, 1) := by decide +kernel
theorem dX7_next_7 : decode cX7_next 7 = .ok (.iaload, 1) := by decide +kernel
theorem dX7_next_8 : decode cX7_next 8 = .ok (.invokevirtual 202, 3) := by decide +kernel
theorem dX7_next_11 : decode cX7_next 11 = .ok (.aload_n 0, 1) := by decide +kernel
theorem dX7_next_12 : decode cX7_next 12 = .ok (.getfield 90, 3) := by decide +kernel
theorem dX7_next_15 : decode cX7_next 15 = .ok (.iload_n 1, 1) := by decide +kernel
theorem dX7_next_16 : decode cX7_next 16 = .ok (.iconst 1, 1) := by decide +kernel
theorem dX7_next_17 : decode cX7_next 17 = .ok (.iload_n 3, 1) := by decide +kernel
theorem dX7_next_18 : decode cX7_next 18 = .ok (.ishl, 1) := by decide +kernel
theorem dX7_next_19 : decode cX7_next 19 = .ok (.ior, 1) := by decide +kernel
theorem dX7_next_20 : decode cX7_next 20 = .ok (.bipush 7, 2) := by decide +kernel
theorem dX7_next_22 : decode cX7_next 22 = .ok (.imul, 1) := by decide +kernel
theorem dX7_next_23 : decode cX7_next 23 = .ok (.aload_n 0, 1) := by decide +kernel
theorem dX7_next_24 : decode cX7_next 24 = .ok (.getfield 83, 3) := by decide +kernel
theorem dX7_next_27 : decode cX7_next 27 = .ok (.iload_n 3, 1) := by decide +kernel
theorem dX7_next_28 : decode cX7_next 28 = .ok (.iaload, 1) := by decide +kernel
theorem dX7_next_29 : decode cX7_next 29 = .ok (.iadd, 1) := by decide +kernel
theorem dX7_next_30 : decode cX7_next 30 = .ok (.iaload, 1) := by decide +kernel
theorem dX7_next_31 : decode cX7_next 31 = .ok (.iadd, 1) := by decide +kernel
theorem dX7_next_32 : decode cX7_next 32 = .ok (.ireturn, 1) := by decide +kernel
set_option maxRecDepth 20000 in
theorem ggX7_changes_X7_next : GoodIn wsX7_changes wsX7_next := goodIn_r _ [15, 10, 8, 16, 17, 18, 14, 19, 20, 21, 22, 23, 24, 25, 26, 27, 28, 29, 30, 31, 32, 33, 34, 35, 36, 37, 38, 39, 40, 41, 42, 43, 44, 45, 46, 47, 48, 49, 50, 51, 52, 53, 54, 55, 56, 57, 58, 59, 60, 61, 62] (by decide +kernel) (by decide +kernel)
set_option maxRecDepth 20000 in
theorem gX7_changes_X7_next : GoodIn wsX7_changes (wsV RX7 206 RX7 yX7_next wsX7_next) := goodIn_app (goodIn_of _ (by decide +kernel)) ggX7_changes_X7_next
theorem dX7_changes_0 : decode cX7_changes 0 = .ok (.aload_n 0, 1) := by decide +kernel
theorem dX7_changes_1 : decode cX7_changes 1 = .ok (.iconst 0, 1) := by decide +kernel
theorem dX7_changes_2 : decode cX7_changes 2 = .ok (.putfield 93, 3) := by decide +kernel
theorem dX7_changes_5 : decode cX7_changes 5 = .ok (.iconst 1, 1) := by decide +kernel
theorem dX7_changes_6 : decode cX7_changes 6 = .ok (.aload_n 0, 1) := by decide +kernel
theorem dX7_changes_7 : decode cX7_changes 7 = .ok (.getfield 199, 3) := by decide +kernel
theorem dX7_changes_10 : decode cX7_changes 10 = .ok (.ishl, 1) := by decide +kernel
theorem dX7_changes_11 : decode cX7_changes 11 = .ok (.iconst 1, 1) := by decide +kernel
theorem dX7_changes_12 : decode cX7_changes 12 = .ok (.isub, 1) := by decide +kernel
theorem dX7_changes_13 : decode cX7_changes 13 = .ok (.istore_n 1, 1) := by decide +kernel
theorem dX7_changes_14 : decode cX7_changes 14 = .ok (.aload_n 0, 1) := by decide +kernel
theorem dX7_changes_15 : decode cX7_changes 15 = .ok (.getfield 199, 3) := by decide +kernel
theorem dX7_changes_18 : decode cX7_changes 18 = .ok (.ifCond .ne 5, 3) := by decide +kernel
theorem dX7_changes_21 : decode cX7_changes 21 = .ok (.iconst 0, 1) := by decide +kernel
theorem dX7_changes_22 : decode cX7_changes 22 = .ok (.ireturn, 1) := by decide +kernel
theorem dX7_changes_23 : decode cX7_changes 23 = .ok (.iload_n 1, 1) := by decide +kernel
theorem dX7_changes_24 : decode cX7_changes 24 = .ok (.istore_n 2, 1) := by decide +kernel
theorem dX7_changes_25 : decode cX7_changes 25 = .ok (.iload_n 2, 1) := by decide +kernel
theorem dX7_changes_26 : decode cX7_changes 26 = .ok (.ifCond .lt 91, 3) := by decide +kernel
theorem dX7_changes_29 : decode cX7_changes 29 = .ok (.iconst 0, 1) := by decide +kernel
theorem dX7_changes_30 : decode cX7_changes 30 = .ok (.istore_n 3, 1) := by decide +kernel
theorem dX7_changes_31 : decode cX7_changes 31 = .ok (.iload_n 3, 1) := by decide +kernel
theorem dX7_changes_32 : decode cX7_changes 32 = .ok (.bipush 6, 2) := by decide +kernel
theorem dX7_changes_34 : decode cX7_changes 34 = .ok (.if_icmp .gt 77, 3) := by decide +kernel
theorem dX7_changes_37 : decode cX7_changes 37 = .ok (.iload_n 2, 1) := by decide +kernel
theorem dX7_changes_38 : decode cX7_changes 38 = .ok (.iload_n 1, 1) := by decide +kernel
theorem dX7_changes_39 : decode cX7_changes 39 = .ok (.if_icmp .ne 7, 3) := by decide +kernel
theorem dX7_changes_42 : decode cX7_changes 42 = .ok (.iconst 0, 1) := by decide +kernel
theorem dX7_changes_43 : decode cX7_changes 43 = .ok (.goto 5, 3) := by decide +kernel
theorem dX7_changes_46 : decode cX7_changes 46 = .ok (.ldc 205, 2) := by decide +kernel
theorem dX7_changes_48 : decode cX7_changes 48 = .ok (.istore 4, 2) := by decide +kernel
theorem dX7_changes_50 : decode cX7_changes 50 = .ok (.iconst 0, 1) := by decide +kernel
theorem dX7_changes_51 : decode cX7_changes 51 = .ok (.istore 5, 2) := by decide +kernel
theorem dX7_changes_53 : decode cX7_changes 53 = .ok (.iload 5, 2) := by decide +kernel
theorem dX7_changes_55 : decode cX7_changes 55 = .ok (.aload_n 0, 1) := by decide +kernel
theorem dX7_changes_56 : decode cX7_changes 56 = .ok (.getfield 199, 3) := by decide +kernel
theorem dX7_changes_59 : decode cX7_changes 59 = .ok (.if_icmp .ge 33, 3) := by decide +kernel
theorem dX7_changes_62 : decode cX7_changes 62 = .ok (.iload_n 2, 1) := by decide +kernel
theorem dX7_changes_63 : decode cX7_changes 63 = .ok (.iload 5, 2) := by decide +kernel
theorem dX7_changes_65 : decode cX7_changes 65 = .ok (.ishr, 1) := by decide +kernel
theorem dX7_changes_66 : decode cX7_changes 66 = .ok (.iconst 1, 1) := by decide +kernel
theorem dX7_changes_67 : decode cX7_changes 67 = .ok (.iand, 1) := by decide +kernel
theorem dX7_changes_68 : decode cX7_changes 68 = .ok (.ifCond .ne 18, 3) := by decide +kernel
theorem dX7_changes_71 : decode cX7_changes 71 = .ok (.iload 4, 2) := by decide +kernel
theorem dX7_changes_73 : decode cX7_changes 73 = .ok (.aload_n 0, 1) := by decide +kernel
theorem dX7_changes_74 : decode cX7_changes 74 = .ok (.iload_n 2, 1) := by decide +kernel
theorem dX7_changes_75 : decode cX7_changes 75 = .ok (.iload_n 3, 1) := by decide +kernel
theorem dX7_changes_76 : decode cX7_changes 76 = .ok (.iload 5, 2) := by decide +kernel
theorem dX7_changes_78 : decode cX7_changes 78 = .ok (.invokevirtual 206, 3) := by decide +kernel
theorem dX7_changes_81 : decode cX7_changes 81 = .ok (.invokestatic 158, 3) := by decide +kernel
theorem dX7_changes_84 : decode cX7_changes 84 = .ok (.istore 4, 2) := by decide +kernel
theorem dX7_changes_86 : decode cX7_changes 86 = .ok (.iinc 5 1, 3) := by decide +kernel
theorem dX7_changes_89 : decode cX7_changes 89 = .ok (.goto (-36), 3) := by decide +kernel
theorem dX7_changes_92 : decode cX7_changes 92 = .ok (.aload_n 0, 1) := by decide +kernel
theorem dX7_changes_93 : decode cX7_changes 93 = .ok (.getfield 90, 3) := by decide +kernel
theorem dX7_changes_96 : decode cX7_changes 96 = .ok (.iload_n 2, 1) := by decide +kernel
theorem dX7_changes_97 : decode cX7_changes 97 = .ok (.bipush 7, 2) := by decide +kernel
theorem dX7_changes_99 : decode cX7_changes 99 = .ok (.imul, 1) := by decide +kernel
theorem dX7_changes_100 : decode cX7_changes 100 = .ok (.iload_n 3, 1) := by decide +kernel
theorem dX7_changes_101 : decode cX7_changes 101 = .ok (.iadd, 1) := by decide +kernel
theorem dX7_changes_102 : decode cX7_changes 102 = .ok (.iload 4, 2) := by decide +kernel
theorem dX7_changes_104 : decode cX7_changes 104 = .ok (.iastore, 1) := by decide +kernel
theorem dX7_changes_105 : decode cX7_changes 105 = .ok (.iinc 3 1, 3) := by decide +kernel
theorem dX7_changes_108 : decode cX7_changes 108 = .ok (.goto (-77), 3) := by decide +kernel
theorem dX7_changes_111 : decode cX7_changes 111 = .ok (.iinc 2 (-1), 3) := by decide +kernel
theorem dX7_changes_114 : decode cX7_changes 114 = .ok (.goto (-89), 3) := by decide +kernel
theorem dX7_changes_117 : decode cX7_changes 117 = .ok (.aload_n 0, 1) := by decide +kernel
theorem dX7_changes_118 : decode cX7_changes 118 = .ok (.getfield 86, 3) := by decide +kernel
theorem dX7_changes_121 : decode cX7_changes 121 = .ok (.ifCond .ge 8, 3) := by decide +kernel
theorem dX7_changes_124 : decode cX7_changes 124 = .ok (.bipush 6, 2) := by decide +kernel
theorem dX7_changes_126 : decode cX7_changes 126 = .ok (.goto 7, 3) := by decide +kernel
theorem dX7_changes_129 : decode cX7_changes 129 = .ok (.aload_n 0, 1) := by decide +kernel
theorem dX7_changes_130 : decode cX7_changes 130 = .ok (.getfield 86, 3) := by decide +kernel
theorem dX7_changes_133 : decode cX7_changes 133 = .ok (.istore_n 2, 1) := by decide +kernel
theorem dX7_changes_134 : decode cX7_changes 134 = .ok (.aload_n 0, 1) := by decide +kernel
theorem dX7_changes_135 : decode cX7_changes 135 = .ok (.getfield 90, 3) := by decide +kernel
theorem dX7_changes_138 : decode cX7_changes 138 = .ok (.iload_n 2, 1) := by decide +kernel
theorem dX7_changes_139 : decode cX7_changes 139 = .ok (.iaload, 1) := by decide +kernel
theorem dX7_changes_140 : decode cX7_changes 140 = .ok (.istore_n 3, 1) := by decide +kernel
theorem dX7_changes_141 : decode cX7_changes 141 = .ok (.iconst 0, 1) := by decide +kernel
theorem dX7_changes_142 : decode cX7_changes 142 = .ok (.istore 4, 2) := by decide +kernel
theorem dX7_changes_144 : decode cX7_changes 144 = .ok (.iload 4, 2) := by decide +kernel
theorem dX7_changes_146 : decode cX7_changes 146 = .ok (.iload_n 1, 1) := by decide +kernel
theorem dX7_changes_147 : decode cX7_changes 147 = .ok (.if_icmp .ge 104, 3) := by decide +kernel
theorem dX7_changes_150 : decode cX7_changes 150 = .ok (.iconst (-1), 1) := by decide +kernel
theorem dX7_changes_151 : decode cX7_changes 151 = .ok (.istore 5, 2) := by decide +kernel
theorem dX7_changes_153 : decode cX7_changes 153 = .ok (.iconst 0, 1) := by decide +kernel
theorem dX7_changes_154 : decode cX7_changes 154 = .ok (.istore 6, 2) := by decide +kernel
theorem dX7_changes_156 : decode cX7_changes 156 = .ok (.iload 6, 2) := by decide +kernel
theorem dX7_changes_158 : decode cX7_changes 158 = .ok (.aload_n 0, 1) := by decide +kernel
theorem dX7_changes_159 : decode cX7_changes 159 = .ok (.getfield 199, 3) := by decide +kernel
theorem dX7_changes_162 : decode cX7_changes 162 = .ok (.if_icmp .ge 69, 3) := by decide +kernel
theorem dX7_changes_165 : decode cX7_changes 165 = .ok (.iload 4, 2) := by decide +kernel
theorem dX7_changes_167 : decode cX7_changes 167 = .ok (.iload 6, 2) := by decide +kernel
theorem dX7_changes_169 : decode cX7_changes 169 = .ok (.ishr, 1) := by decide +kernel
theorem dX7_changes_170 : decode cX7_changes 170 = .ok (.iconst 1, 1) := by decide +kernel
theorem dX7_changes_171 : decode cX7_changes 171 = .ok (.iand, 1) := by decide +kernel
theorem dX7_changes_172 : decode cX7_changes 172 = .ok (.ifCond .ne 53, 3) := by decide +kernel
theorem dX7_changes_175 : decode cX7_changes 175 = .ok (.aload_n 0, 1) := by decide +kernel
theorem dX7_changes_176 : decode cX7_changes 176 = .ok (.iload 4, 2) := by decide +kernel
theorem dX7_changes_178 : decode cX7_changes 178 = .ok (.iload_n 2, 1) := by decide +kernel
theorem dX7_changes_179 : decode cX7_changes 179 = .ok (.iload 6, 2) := by decide +kernel
theorem dX7_changes_181 : decode cX7_changes 181 = .ok (.invokevirtual 206, 3) := by decide +kernel
theorem dX7_changes_184 : decode cX7_changes 184 = .ok (.aload_n 0, 1) := by decide +kernel
theorem dX7_changes_185 : decode cX7_changes 185 = .ok (.getfield 90, 3) := by decide +kernel
theorem dX7_changes_188 : decode cX7_changes 188 = .ok (.iload 4, 2) := by decide +kernel
theorem dX7_changes_190 : decode cX7_changes 190 = .ok (.bipush 7, 2) := by decide +kernel
theorem dX7_changes_192 : decode cX7_changes 192 = .ok (.imul, 1) := by decide +kernel
theorem dX7_changes_193 : decode cX7_changes 193 = .ok (.iload_n 2, 1) := by decide +kernel
theorem dX7_changes_194 : decode cX7_changes 194 = .ok (.iadd, 1) := by decide +kernel
theorem dX7_changes_195 : decode cX7_changes 195 = .ok (.iaload, 1) := by decide +kernel
theorem dX7_changes_196 : decode cX7_changes 196 = .ok (.if_icmp .ne 29, 3) := by decide +kernel
theorem dX7_changes_199 : decode cX7_changes 199 = .ok (.iload 5, 2) := by decide +kernel
theorem dX7_changes_201 : decode cX7_changes 201 = .ok (.ifCond .lt 20, 3) := by decide +kernel
theorem dX7_changes_204 : decode cX7_changes 204 = .ok (.aload_n 0, 1) := by decide +kernel
theorem dX7_changes_205 : decode cX7_changes 205 = .ok (.getfield 83, 3) := by decide +kernel
theorem dX7_changes_208 : decode cX7_changes 208 = .ok (.iload 6, 2) := by decide +kernel
theorem dX7_changes_210 : decode cX7_changes 210 = .ok (.iaload, 1) := by decide +kernel
theorem dX7_changes_211 : decode cX7_changes 211 = .ok (.aload_n 0, 1) := by decide +kernel
theorem dX7_changes_212 : decode cX7_changes 212 = .ok (.getfield 83, 3) := by decide +kernel
theorem dX7_changes_215 : decode cX7_changes 215 = .ok (.iload 5, 2) := by decide +kernel
theorem dX7_changes_217 : decode cX7_changes 217 = .ok (.iaload, 1) := by decide +kernel
theorem dX7_changes_218 : decode cX7_changes 218 = .ok (.if_icmp .ge 7, 3) := by decide +kernel
theorem dX7_changes_221 : decode cX7_changes 221 = .ok (.iload 6, 2) := by decide +kernel
theorem dX7_changes_223 : decode cX7_changes 223 = .ok (.istore 5, 2) := by decide +kernel
theorem dX7_changes_225 : decode cX7_changes 225 = .ok (.iinc 6 1, 3) := by decide +kernel
theorem dX7_changes_228 : decode cX7_changes 228 = .ok (.goto (-72), 3) := by decide +kernel
theorem dX7_changes_231 : decode cX7_changes 231 = .ok (.iload 4, 2) := by decide +kernel
theorem dX7_changes_233 : decode cX7_changes 233 = .ok (.iconst 1, 1) := by decide +kernel
theorem dX7_changes_234 : decode cX7_changes 234 = .ok (.iload 5, 2) := by decide +kernel
theorem dX7_changes_236 : decode cX7_changes 236 = .ok (.ishl, 1) := by decide +kernel
theorem dX7_changes_237 : decode cX7_changes 237 = .ok (.ior, 1) := by decide +kernel
theorem dX7_changes_238 : decode cX7_changes 238 = .ok (.istore 4, 2) := by decide +kernel
theorem dX7_changes_240 : decode cX7_changes 240 = .ok (.aload_n 0, 1) := by decide +kernel
theorem dX7_changes_241 : decode cX7_changes 241 = .ok (.getfield 83, 3) := by decide +kernel
theorem dX7_changes_244 : decode cX7_changes 244 = .ok (.iload 5, 2) := by decide +kernel
theorem dX7_changes_246 : decode cX7_changes 246 = .ok (.iaload, 1) := by decide +kernel
theorem dX7_changes_247 : decode cX7_changes 247 = .ok (.istore_n 2, 1) := by decide +kernel
theorem dX7_changes_248 : decode cX7_changes 248 = .ok (.goto (-104), 3) := by decide +kernel
theorem dX7_changes_251 : decode cX7_changes 251 = .ok (.aload_n 0, 1) := by decide +kernel
theorem dX7_changes_252 : decode cX7_changes 252 = .ok (.iload_n 2, 1) := by decide +kernel
theorem dX7_changes_253 : decode cX7_changes 253 = .ok (.putfield 86, 3) := by decide +kernel
theorem dX7_changes_256 : decode cX7_changes 256 = .ok (.aload_n 0, 1) := by decide +kernel
theorem dX7_changes_257 : decode cX7_changes 257 = .ok (.iconst 0, 1) := by decide +kernel
theorem dX7_changes_258 : decode cX7_changes 258 = .ok (.putfield 199, 3) := by decide +kernel
theorem dX7_changes_261 : decode cX7_changes 261 = .ok (.iload_n 3, 1) := by decide +kernel
theorem dX7_changes_262 : decode cX7_changes 262 = .ok (.ireturn, 1) := by decide +kernel
set_option maxRecDepth 20000 in
theorem ggX7_count_X7_slatsOfAll : GoodIn wsX7_count wsX7_slatsOfAll := goodIn_r _ [15, 16, 17, 18, 19, 20, 21, 22, 23, 24, 25, 26, 27, 28, 29, 30, 31, 32, 33, 34, 35, 36, 37, 38, 39, 40, 41, 42, 43, 44, 45, 46, 47, 48, 49, 50, 51, 52, 53, 54, 55, 56, 57, 58] (by decide +kernel) (by decide +kernel)
set_option maxRecDepth 20000 in
theorem gX7_count_X7_slatsOfAll : GoodIn wsX7_count (wsV RX7 186 RX7 yX7_slatsOfAll wsX7_slatsOfAll) := goodIn_app (goodIn_of _ (by decide +kernel)) ggX7_count_X7_slatsOfAll
theorem dX7_count_0 : decode cX7_count 0 = .ok (.aload_n 0, 1) := by decide +kernel
theorem dX7_count_1 : decode cX7_count 1 = .ok (.iconst 0, 1) := by decide +kernel
theorem dX7_count_2 : decode cX7_count 2 = .ok (.putfield 93, 3) := by decide +kernel
theorem dX7_count_5 : decode cX7_count 5 = .ok (.iload_n 1, 1) := by decide +kernel
theorem dX7_count_6 : decode cX7_count 6 = .ok (.tableswitch 104 0 9 #[54, 59, 64, 69, 74, 79, 84, 89, 94, 99], 54) := by decide +kernel
theorem dX7_count_60 : decode cX7_count 60 = .ok (.aload_n 0, 1) := by decide +kernel
theorem dX7_count_61 : decode cX7_count 61 = .ok (.getfield 155, 3) := by decide +kernel
theorem dX7_count_64 : decode cX7_count 64 = .ok (.ireturn, 1) := by decide +kernel
theorem dX7_count_65 : decode cX7_count 65 = .ok (.aload_n 0, 1) := by decide +kernel
theorem dX7_count_66 : decode cX7_count 66 = .ok (.getfield 104, 3) := by decide +kernel
theorem dX7_count_69 : decode cX7_count 69 = .ok (.ireturn, 1) := by decide +kernel
theorem dX7_count_70 : decode cX7_count 70 = .ok (.aload_n 0, 1) := by decide +kernel
theorem dX7_count_71 : decode cX7_count 71 = .ok (.getfield 132, 3) := by decide +kernel
theorem dX7_count_74 : decode cX7_count 74 = .ok (.ireturn, 1) := by decide +kernel
theorem dX7_count_75 : decode cX7_count 75 = .ok (.aload_n 0, 1) := by decide +kernel
theorem dX7_count_76 : decode cX7_count 76 = .ok (.getfield 142, 3) := by decide +kernel
theorem dX7_count_79 : decode cX7_count 79 = .ok (.ireturn, 1) := by decide +kernel
theorem dX7_count_80 : decode cX7_count 80 = .ok (.aload_n 0, 1) := by decide +kernel
theorem dX7_count_81 : decode cX7_count 81 = .ok (.getfield 149, 3) := by decide +kernel
theorem dX7_count_84 : decode cX7_count 84 = .ok (.ireturn, 1) := by decide +kernel
theorem dX7_count_85 : decode cX7_count 85 = .ok (.aload_n 0, 1) := by decide +kernel
theorem dX7_count_86 : decode cX7_count 86 = .ok (.getfield 152, 3) := by decide +kernel
theorem dX7_count_89 : decode cX7_count 89 = .ok (.ireturn, 1) := by decide +kernel
theorem dX7_count_90 : decode cX7_count 90 = .ok (.aload_n 0, 1) := by decide +kernel
theorem dX7_count_91 : decode cX7_count 91 = .ok (.invokevirtual 186, 3) := by decide +kernel
theorem dX7_count_94 : decode cX7_count 94 = .ok (.ireturn, 1) := by decide +kernel
theorem dX7_count_95 : decode cX7_count 95 = .ok (.aload_n 0, 1) := by decide +kernel
theorem dX7_count_96 : decode cX7_count 96 = .ok (.getfield 190, 3) := by decide +kernel
theorem dX7_count_99 : decode cX7_count 99 = .ok (.ireturn, 1) := by decide +kernel
theorem dX7_count_100 : decode cX7_count 100 = .ok (.aload_n 0, 1) := by decide +kernel
theorem dX7_count_101 : decode cX7_count 101 = .ok (.getfield 199, 3) := by decide +kernel
theorem dX7_count_104 : decode cX7_count 104 = .ok (.ireturn, 1) := by decide +kernel
theorem dX7_count_105 : decode cX7_count 105 = .ok (.aload_n 0, 1) := by decide +kernel
theorem dX7_count_106 : decode cX7_count 106 = .ok (.getfield 86, 3) := by decide +kernel
theorem dX7_count_109 : decode cX7_count 109 = .ok (.ireturn, 1) := by decide +kernel
theorem dX7_count_110 : decode cX7_count 110 = .ok (.iconst (-1), 1) := by decide +kernel
theorem dX7_count_111 : decode cX7_count 111 = .ok (.ireturn, 1) := by decide +kernel
end
section
set_option maxRecDepth 20000 in
theorem ggX6_init_X1_init : GoodIn wsX6_init wsX1_init := goodIn_r _ [29, 30, 2, 3, 31, 32, 33, 34, 35, 36, 37, 38, 39, 40, 41, 42, 81, 82, 83, 84, 85, 86, 87, 88, 89, 90, 91, 92, 93, 94, 95, 96] (by decide +kernel) (by decide +kernel)
set_option maxRecDepth 20000 in
theorem gX6_init_X1_init_n9 : GoodIn wsX6_init (wsX1_init) := ggX6_init_X1_init
set_option maxRecDepth 20000 in
theorem ggX6_init_X3_init : GoodIn wsX6_init wsX3_init := goodIn_r _ [44, 45, 2, 3, 31, 46, 47, 48, 49, 50, 51, 103, 104, 105, 106, 107, 108, 109, 110, 111] (by decide +kernel) (by decide +kernel)
set_option maxRecDepth 20000 in
theorem gX6_init_X3_init_n18 : GoodIn wsX6_init (wsX3_init) := ggX6_init_X3_init
set_option maxRecDepth 20000 in
theorem ggX6_init_X5_init : GoodIn wsX6_init wsX5_init := goodIn_r _ [53, 54, 2, 3, 31, 55, 56, 57, 58, 59, 112, 113, 114, 115, 116, 117] (by decide +kernel) (by decide +kernel)
set_option maxRecDepth 20000 in
theorem gX6_init_X5_init_n25 : GoodIn wsX6_init (wsX5_init) := ggX6_init_X5_init
set_option maxRecDepth 20000 in
theorem ggX6_init_X0_init : GoodIn wsX6_init wsX0_init := goodIn_r _ [61, 62, 2, 3, 31, 63, 118, 119, 120, 121, 122] (by decide +kernel) (by decide +kernel)
set_option maxRecDepth 20000 in
theorem gX6_init_X0_init_n32 : GoodIn wsX6_init (wsX0_init) := ggX6_init_X0_init
set_option maxRecDepth 20000 in
theorem ggX6_init_X2_init : GoodIn wsX6_init wsX2_init := goodIn_r _ [65, 66, 2, 3, 31, 67, 68, 69, 70, 71, 123, 124, 125, 126, 127, 128, 129] (by decide +kernel) (by decide +kernel)
set_option maxRecDepth 20000 in
theorem gX6_init_X2_init_n39 : GoodIn wsX6_init (wsX2_init) := ggX6_init_X2_init
set_option maxRecDepth 20000 in
theorem ggX6_init_X4_init : GoodIn wsX6_init wsX4_init := goodIn_r _ [73, 74, 2, 3, 31, 75, 76, 77, 78, 79, 80, 130, 131, 132, 133, 134, 135, 136] (by decide +kernel) (by decide +kernel)
set_option maxRecDepth 20000 in
theorem gX6_init_X4_init_n46 : GoodIn wsX6_init (wsX4_init) := ggX6_init_X4_init
theorem dX6_init_0 : decode cX6_init 0 = .ok (.aload_n 0, 1) := by decide +kernel
theorem dX6_init_1 : decode cX6_init 1 = .ok (.invokespecial 1, 3) := by decide +kernel
theorem dX6_init_4 : decode cX6_init 4 = .ok (.aload_n 0, 1) := by decide +kernel
theorem dX6_init_5 : decode cX6_init 5 = .ok (.new 7, 3) := by decide +kernel
theorem dX6_init_8 : decode cX6_init 8 = .ok (.dup, 1) := by decide +kernel
theorem dX6_init_9 : decode cX6_init 9 = .ok (.invokespecial 9, 3) := by decide +kernel
theorem dX6_init_12 : decode cX6_init 12 = .ok (.putfield 10, 3) := by decide +kernel
theorem dX6_init_15 : decode cX6_init 15 = .ok (.aload_n 0, 1) := by decide +kernel
theorem dX6_init_16 : decode cX6_init 16 = .ok (.new 16, 3) := by decide +kernel
theorem dX6_init_19 : decode cX6_init 19 = .ok (.dup, 1) := by decide +kernel
theorem dX6_init_20 : decode cX6_init 20 = .ok (.invokespecial 18, 3) := by decide +kernel
theorem dX6_init_23 : decode cX6_init 23 = .ok (.putfield 19, 3) := by decide +kernel
theorem dX6_init_26 : decode cX6_init 26 = .ok (.aload_n 0, 1) := by decide +kernel
theorem dX6_init_27 : decode cX6_init 27 = .ok (.new 23, 3) := by decide +kernel
theorem dX6_init_30 : decode cX6_init 30 = .ok (.dup, 1) := by decide +kernel
theorem dX6_init_31 : decode cX6_init 31 = .ok (.invokespecial 25, 3) := by decide +kernel
theorem dX6_init_34 : decode cX6_init 34 = .ok (.putfield 26, 3) := by decide +kernel
theorem dX6_init_37 : decode cX6_init 37 = .ok (.aload_n 0, 1) := by decide +kernel
theorem dX6_init_38 : decode cX6_init 38 = .ok (.new 30, 3) := by decide +kernel
theorem dX6_init_41 : decode cX6_init 41 = .ok (.dup, 1) := by decide +kernel
theorem dX6_init_42 : decode cX6_init 42 = .ok (.invokespecial 32, 3) := by decide +kernel
theorem dX6_init_45 : decode cX6_init 45 = .ok (.putfield 33, 3) := by decide +kernel
theorem dX6_init_48 : decode cX6_init 48 = .ok (.aload_n 0, 1) := by decide +kernel
theorem dX6_init_49 : decode cX6_init 49 = .ok (.new 37, 3) := by decide +kernel
theorem dX6_init_52 : decode cX6_init 52 = .ok (.dup, 1) := by decide +kernel
theorem dX6_init_53 : decode cX6_init 53 = .ok (.invokespecial 39, 3) := by decide +kernel
theorem dX6_init_56 : decode cX6_init 56 = .ok (.putfield 40, 3) := by decide +kernel
theorem dX6_init_59 : decode cX6_init 59 = .ok (.aload_n 0, 1) := by decide +kernel
theorem dX6_init_60 : decode cX6_init 60 = .ok (.new 44, 3) := by decide +kernel
theorem dX6_init_63 : decode cX6_init 63 = .ok (.dup, 1) := by decide +kernel
theorem dX6_init_64 : decode cX6_init 64 = .ok (.invokespecial 46, 3) := by decide +kernel
theorem dX6_init_67 : decode cX6_init 67 = .ok (.putfield 47, 3) := by decide +kernel
theorem dX6_init_70 : decode cX6_init 70 = .ok (.return_, 1) := by decide +kernel
set_option maxRecDepth 20000 in
theorem ggX6_earth_X6_isSpan : GoodIn wsX6_earth wsX6_isSpan := goodIn_r _ [10] (by decide +kernel) (by decide +kernel)
set_option maxRecDepth 20000 in
theorem gX6_earth_X6_isSpan : GoodIn wsX6_earth (va_wsS RX6 51 yX6_isSpan wsX6_isSpan) := goodIn_app (goodIn_of _ (by decide +kernel)) ggX6_earth_X6_isSpan
set_option maxRecDepth 20000 in
theorem ggX6_earth_X6_isWithin : GoodIn wsX6_earth wsX6_isWithin := goodIn_r _ [13] (by decide +kernel) (by decide +kernel)
set_option maxRecDepth 20000 in
theorem gX6_earth_X6_isWithin : GoodIn wsX6_earth (va_wsS RX6 55 yX6_isWithin wsX6_isWithin) := goodIn_app (goodIn_of _ (by decide +kernel)) ggX6_earth_X6_isWithin
set_option maxRecDepth 20000 in
theorem ggX6_earth_X1_add : GoodIn wsX6_earth wsX1_add := goodIn_r _ [18, 19, 20, 21, 22, 23, 30, 31, 32, 33, 34, 35, 36, 37, 38, 39, 40, 41, 42, 43, 44, 45] (by decide +kernel) (by decide +kernel)
set_option maxRecDepth 20000 in
theorem gX6_earth_X1_add : GoodIn wsX6_earth (wsV RX6 75 RX1 yX1_add wsX1_add) := goodIn_app (goodIn_of _ (by decide +kernel)) ggX6_earth_X1_add
theorem dX6_earth_0 : decode cX6_earth 0 = .ok (.iload_n 1, 1) := by decide +kernel
theorem dX6_earth_1 : decode cX6_earth 1 = .ok (.iload_n 2, 1) := by decide +kernel
theorem dX6_earth_2 : decode cX6_earth 2 = .ok (.invokestatic 51, 3) := by decide +kernel
theorem dX6_earth_5 : decode cX6_earth 5 = .ok (.ifCond .eq 26, 3) := by decide +kernel
theorem dX6_earth_8 : decode cX6_earth 8 = .ok (.iload_n 3, 1) := by decide +kernel
theorem dX6_earth_9 : decode cX6_earth 9 = .ok (.iconst 1, 1) := by decide +kernel
theorem dX6_earth_10 : decode cX6_earth 10 = .ok (.sipush 1000, 3) := by decide +kernel
theorem dX6_earth_13 : decode cX6_earth 13 = .ok (.invokestatic 55, 3) := by decide +kernel
theorem dX6_earth_16 : decode cX6_earth 16 = .ok (.ifCond .eq 15, 3) := by decide +kernel
theorem dX6_earth_19 : decode cX6_earth 19 = .ok (.iload 4, 2) := by decide +kernel
theorem dX6_earth_21 : decode cX6_earth 21 = .ok (.iconst 0, 1) := by decide +kernel
theorem dX6_earth_22 : decode cX6_earth 22 = .ok (.sipush 1000, 3) := by decide +kernel
theorem dX6_earth_25 : decode cX6_earth 25 = .ok (.invokestatic 55, 3) := by decide +kernel
theorem dX6_earth_28 : decode cX6_earth 28 = .ok (.ifCond .ne 13, 3) := by decide +kernel
theorem dX6_earth_31 : decode cX6_earth 31 = .ok (.new 59, 3) := by decide +kernel
theorem dX6_earth_34 : decode cX6_earth 34 = .ok (.dup, 1) := by decide +kernel
theorem dX6_earth_35 : decode cX6_earth 35 = .ok (.ldc 61, 2) := by decide +kernel
theorem dX6_earth_37 : decode cX6_earth 37 = .ok (.invokespecial 63, 3) := by decide +kernel
theorem dX6_earth_40 : decode cX6_earth 40 = .ok (.athrow, 1) := by decide +kernel
theorem dX6_earth_41 : decode cX6_earth 41 = .ok (.aload_n 0, 1) := by decide +kernel
theorem dX6_earth_42 : decode cX6_earth 42 = .ok (.getfield 10, 3) := by decide +kernel
theorem dX6_earth_45 : decode cX6_earth 45 = .ok (.getfield 66, 3) := by decide +kernel
theorem dX6_earth_48 : decode cX6_earth 48 = .ok (.bipush 6, 2) := by decide +kernel
theorem dX6_earth_50 : decode cX6_earth 50 = .ok (.if_icmp .lt 13, 3) := by decide +kernel
theorem dX6_earth_53 : decode cX6_earth 53 = .ok (.new 70, 3) := by decide +kernel
theorem dX6_earth_56 : decode cX6_earth 56 = .ok (.dup, 1) := by decide +kernel
theorem dX6_earth_57 : decode cX6_earth 57 = .ok (.ldc 72, 2) := by decide +kernel
theorem dX6_earth_59 : decode cX6_earth 59 = .ok (.invokespecial 74, 3) := by decide +kernel
theorem dX6_earth_62 : decode cX6_earth 62 = .ok (.athrow, 1) := by decide +kernel
theorem dX6_earth_63 : decode cX6_earth 63 = .ok (.aload_n 0, 1) := by decide +kernel
theorem dX6_earth_64 : decode cX6_earth 64 = .ok (.getfield 10, 3) := by decide +kernel
theorem dX6_earth_67 : decode cX6_earth 67 = .ok (.iload_n 1, 1) := by decide +kernel
theorem dX6_earth_68 : decode cX6_earth 68 = .ok (.iload_n 2, 1) := by decide +kernel
theorem dX6_earth_69 : decode cX6_earth 69 = .ok (.iload_n 3, 1) := by decide +kernel
theorem dX6_earth_70 : decode cX6_earth 70 = .ok (.iload 4, 2) := by decide +kernel
theorem dX6_earth_72 : decode cX6_earth 72 = .ok (.invokevirtual 75, 3) := by decide +kernel
theorem dX6_earth_75 : decode cX6_earth 75 = .ok (.ireturn, 1) := by decide +kernel
set_option maxRecDepth 20000 in
theorem ggX6_bring_X6_isNumberOf : GoodIn wsX6_bring wsX6_isNumberOf := goodIn_r _ [11] (by decide +kernel) (by decide +kernel)
set_option maxRecDepth 20000 in
theorem gX6_bring_X6_isNumberOf : GoodIn wsX6_bring (va_wsS RX6 79 yX6_isNumberOf wsX6_isNumberOf) := goodIn_app (goodIn_of _ (by decide +kernel)) ggX6_bring_X6_isNumberOf
set_option maxRecDepth 20000 in
theorem ggX6_bring_X6_isWithin : GoodIn wsX6_bring wsX6_isWithin := goodIn_r _ [14] (by decide +kernel) (by decide +kernel)
set_option maxRecDepth 20000 in
theorem gX6_bring_X6_isWithin : GoodIn wsX6_bring (va_wsS RX6 55 yX6_isWithin wsX6_isWithin) := goodIn_app (goodIn_of _ (by decide +kernel)) ggX6_bring_X6_isWithin
theorem dX6_bring_0 : decode cX6_bring 0 = .ok (.iload_n 1, 1) := by decide +kernel
theorem dX6_bring_1 : decode cX6_bring 1 = .ok (.aload_n 0, 1) := by decide +kernel
theorem dX6_bring_2 : decode cX6_bring 2 = .ok (.getfield 10, 3) := by decide +kernel
theorem dX6_bring_5 : decode cX6_bring 5 = .ok (.getfield 66, 3) := by decide +kernel
theorem dX6_bring_8 : decode cX6_bring 8 = .ok (.invokestatic 79, 3) := by decide +kernel
theorem dX6_bring_11 : decode cX6_bring 11 = .ok (.ifCond .ne 13, 3) := by decide +kernel
theorem dX6_bring_14 : decode cX6_bring 14 = .ok (.new 82, 3) := by decide +kernel
theorem dX6_bring_17 : decode cX6_bring 17 = .ok (.dup, 1) := by decide +kernel
theorem dX6_bring_18 : decode cX6_bring 18 = .ok (.ldc 84, 2) := by decide +kernel
theorem dX6_bring_20 : decode cX6_bring 20 = .ok (.invokespecial 86, 3) := by decide +kernel
theorem dX6_bring_23 : decode cX6_bring 23 = .ok (.athrow, 1) := by decide +kernel
theorem dX6_bring_24 : decode cX6_bring 24 = .ok (.iload_n 2, 1) := by decide +kernel
theorem dX6_bring_25 : decode cX6_bring 25 = .ok (.iconst 0, 1) := by decide +kernel
theorem dX6_bring_26 : decode cX6_bring 26 = .ok (.sipush 1000, 3) := by decide +kernel
theorem dX6_bring_29 : decode cX6_bring 29 = .ok (.invokestatic 55, 3) := by decide +kernel
theorem dX6_bring_32 : decode cX6_bring 32 = .ok (.ifCond .eq 20, 3) := by decide +kernel
theorem dX6_bring_35 : decode cX6_bring 35 = .ok (.aload_n 0, 1) := by decide +kernel
theorem dX6_bring_36 : decode cX6_bring 36 = .ok (.getfield 10, 3) := by decide +kernel
theorem dX6_bring_39 : decode cX6_bring 39 = .ok (.getfield 87, 3) := by decide +kernel
theorem dX6_bring_42 : decode cX6_bring 42 = .ok (.iload_n 1, 1) := by decide +kernel
theorem dX6_bring_43 : decode cX6_bring 43 = .ok (.iaload, 1) := by decide +kernel
theorem dX6_bring_44 : decode cX6_bring 44 = .ok (.iload_n 2, 1) := by decide +kernel
theorem dX6_bring_45 : decode cX6_bring 45 = .ok (.iadd, 1) := by decide +kernel
theorem dX6_bring_46 : decode cX6_bring 46 = .ok (.sipush 1000, 3) := by decide +kernel
theorem dX6_bring_49 : decode cX6_bring 49 = .ok (.if_icmp .le 13, 3) := by decide +kernel
theorem dX6_bring_52 : decode cX6_bring 52 = .ok (.new 59, 3) := by decide +kernel
theorem dX6_bring_55 : decode cX6_bring 55 = .ok (.dup, 1) := by decide +kernel
theorem dX6_bring_56 : decode cX6_bring 56 = .ok (.ldc 91, 2) := by decide +kernel
theorem dX6_bring_58 : decode cX6_bring 58 = .ok (.invokespecial 63, 3) := by decide +kernel
theorem dX6_bring_61 : decode cX6_bring 61 = .ok (.athrow, 1) := by decide +kernel
theorem dX6_bring_62 : decode cX6_bring 62 = .ok (.aload_n 0, 1) := by decide +kernel
theorem dX6_bring_63 : decode cX6_bring 63 = .ok (.getfield 10, 3) := by decide +kernel
theorem dX6_bring_66 : decode cX6_bring 66 = .ok (.getfield 87, 3) := by decide +kernel
theorem dX6_bring_69 : decode cX6_bring 69 = .ok (.iload_n 1, 1) := by decide +kernel
theorem dX6_bring_70 : decode cX6_bring 70 = .ok (.dup2, 1) := by decide +kernel
theorem dX6_bring_71 : decode cX6_bring 71 = .ok (.iaload, 1) := by decide +kernel
theorem dX6_bring_72 : decode cX6_bring 72 = .ok (.iload_n 2, 1) := by decide +kernel
theorem dX6_bring_73 : decode cX6_bring 73 = .ok (.iadd, 1) := by decide +kernel
theorem dX6_bring_74 : decode cX6_bring 74 = .ok (.iastore, 1) := by decide +kernel
theorem dX6_bring_75 : decode cX6_bring 75 = .ok (.aload_n 0, 1) := by decide +kernel
theorem dX6_bring_76 : decode cX6_bring 76 = .ok (.getfield 10, 3) := by decide +kernel
theorem dX6_bring_79 : decode cX6_bring 79 = .ok (.getfield 87, 3) := by decide +kernel
theorem dX6_bring_82 : decode cX6_bring 82 = .ok (.iload_n 1, 1) := by decide +kernel
theorem dX6_bring_83 : decode cX6_bring 83 = .ok (.iaload, 1) := by decide +kernel
theorem dX6_bring_84 : decode cX6_bring 84 = .ok (.ireturn, 1) := by decide +kernel
set_option maxRecDepth 20000 in
theorem ggX6_blend_X6_isSpan : GoodIn wsX6_blend wsX6_isSpan := goodIn_r _ [8] (by decide +kernel) (by decide +kernel)
set_option maxRecDepth 20000 in
theorem gX6_blend_X6_isSpan : GoodIn wsX6_blend (va_wsS RX6 51 yX6_isSpan wsX6_isSpan) := goodIn_app (goodIn_of _ (by decide +kernel)) ggX6_blend_X6_isSpan
set_option maxRecDepth 20000 in
theorem ggX6_blend_X1_seek : GoodIn wsX6_blend wsX1_seek := goodIn_r _ [13, 14, 15, 16, 17, 18, 19, 12, 20, 21, 22, 23, 24, 25, 26, 27, 28, 29, 30, 31, 32, 33, 34, 35, 36, 37, 38, 39, 40, 41, 42, 43, 44, 45, 46, 47, 48, 49, 50, 51, 52, 53, 54, 55, 56, 63, 64, 65, 66, 67, 68, 69, 70, 71, 72, 73, 74, 75, 76, 77, 78] (by decide +kernel) (by decide +kernel)
set_option maxRecDepth 20000 in
theorem gX6_blend_X1_seek : GoodIn wsX6_blend (wsV RX6 95 RX1 yX1_seek wsX1_seek) := goodIn_app (goodIn_of _ (by decide +kernel)) ggX6_blend_X1_seek
theorem dX6_blend_0 : decode cX6_blend 0 = .ok (.iload_n 1, 1) := by decide +kernel
theorem dX6_blend_1 : decode cX6_blend 1 = .ok (.iload_n 2, 1) := by decide +kernel
theorem dX6_blend_2 : decode cX6_blend 2 = .ok (.invokestatic 51, 3) := by decide +kernel
theorem dX6_blend_5 : decode cX6_blend 5 = .ok (.ifCond .ne 13, 3) := by decide +kernel
theorem dX6_blend_8 : decode cX6_blend 8 = .ok (.new 59, 3) := by decide +kernel
theorem dX6_blend_11 : decode cX6_blend 11 = .ok (.dup, 1) := by decide +kernel
theorem dX6_blend_12 : decode cX6_blend 12 = .ok (.ldc 93, 2) := by decide +kernel
theorem dX6_blend_14 : decode cX6_blend 14 = .ok (.invokespecial 63, 3) := by decide +kernel
theorem dX6_blend_17 : decode cX6_blend 17 = .ok (.athrow, 1) := by decide +kernel
theorem dX6_blend_18 : decode cX6_blend 18 = .ok (.aload_n 0, 1) := by decide +kernel
theorem dX6_blend_19 : decode cX6_blend 19 = .ok (.getfield 10, 3) := by decide +kernel
theorem dX6_blend_22 : decode cX6_blend 22 = .ok (.iload_n 1, 1) := by decide +kernel
theorem dX6_blend_23 : decode cX6_blend 23 = .ok (.iload_n 2, 1) := by decide +kernel
theorem dX6_blend_24 : decode cX6_blend 24 = .ok (.invokevirtual 95, 3) := by decide +kernel
theorem dX6_blend_27 : decode cX6_blend 27 = .ok (.aload_n 0, 1) := by decide +kernel
theorem dX6_blend_28 : decode cX6_blend 28 = .ok (.getfield 10, 3) := by decide +kernel
theorem dX6_blend_31 : decode cX6_blend 31 = .ok (.getfield 99, 3) := by decide +kernel
theorem dX6_blend_34 : decode cX6_blend 34 = .ok (.ireturn, 1) := by decide +kernel
set_option maxRecDepth 20000 in
theorem ggX6_parts_X6_isNumberOf : GoodIn wsX6_parts wsX6_isNumberOf := goodIn_r _ [12] (by decide +kernel) (by decide +kernel)
set_option maxRecDepth 20000 in
theorem gX6_parts_X6_isNumberOf : GoodIn wsX6_parts (va_wsS RX6 79 yX6_isNumberOf wsX6_isNumberOf) := goodIn_app (goodIn_of _ (by decide +kernel)) ggX6_parts_X6_isNumberOf
set_option maxRecDepth 20000 in
theorem ggX6_parts_X6_isSpan : GoodIn wsX6_parts wsX6_isSpan := goodIn_r _ [15] (by decide +kernel) (by decide +kernel)
set_option maxRecDepth 20000 in
theorem gX6_parts_X6_isSpan : GoodIn wsX6_parts (va_wsS RX6 51 yX6_isSpan wsX6_isSpan) := goodIn_app (goodIn_of _ (by decide +kernel)) ggX6_parts_X6_isSpan
set_option maxRecDepth 20000 in
theorem ggX6_parts_X1_seek : GoodIn wsX6_parts wsX1_seek := goodIn_r _ [20, 21, 22, 23, 24, 25, 26, 19, 27, 28, 29, 30, 31, 32, 33, 34, 35, 36, 37, 38, 39, 40, 41, 42, 43, 44, 45, 46, 47, 48, 49, 50, 51, 52, 53, 54, 55, 56, 57, 58, 59, 60, 61, 62, 63, 70, 71, 72, 73, 74, 75, 76, 77, 78, 79, 80, 81, 82, 83, 84, 85] (by decide +kernel) (by decide +kernel)
set_option maxRecDepth 20000 in
theorem gX6_parts_X1_seek : GoodIn wsX6_parts (wsV RX6 95 RX1 yX1_seek wsX1_seek) := goodIn_app (goodIn_of _ (by decide +kernel)) ggX6_parts_X1_seek
theorem dX6_parts_0 : decode cX6_parts 0 = .ok (.iload_n 3, 1) := by decide +kernel
theorem dX6_parts_1 : decode cX6_parts 1 = .ok (.aload_n 0, 1) := by decide +kernel
theorem dX6_parts_2 : decode cX6_parts 2 = .ok (.getfield 10, 3) := by decide +kernel
theorem dX6_parts_5 : decode cX6_parts 5 = .ok (.getfield 66, 3) := by decide +kernel
theorem dX6_parts_8 : decode cX6_parts 8 = .ok (.invokestatic 79, 3) := by decide +kernel
theorem dX6_parts_11 : decode cX6_parts 11 = .ok (.ifCond .ne 13, 3) := by decide +kernel
theorem dX6_parts_14 : decode cX6_parts 14 = .ok (.new 82, 3) := by decide +kernel
theorem dX6_parts_17 : decode cX6_parts 17 = .ok (.dup, 1) := by decide +kernel
theorem dX6_parts_18 : decode cX6_parts 18 = .ok (.ldc 84, 2) := by decide +kernel
theorem dX6_parts_20 : decode cX6_parts 20 = .ok (.invokespecial 86, 3) := by decide +kernel
theorem dX6_parts_23 : decode cX6_parts 23 = .ok (.athrow, 1) := by decide +kernel
theorem dX6_parts_24 : decode cX6_parts 24 = .ok (.iload_n 1, 1) := by decide +kernel
theorem dX6_parts_25 : decode cX6_parts 25 = .ok (.iload_n 2, 1) := by decide +kernel
theorem dX6_parts_26 : decode cX6_parts 26 = .ok (.invokestatic 51, 3) := by decide +kernel
theorem dX6_parts_29 : decode cX6_parts 29 = .ok (.ifCond .ne 13, 3) := by decide +kernel
theorem dX6_parts_32 : decode cX6_parts 32 = .ok (.new 59, 3) := by decide +kernel
theorem dX6_parts_35 : decode cX6_parts 35 = .ok (.dup, 1) := by decide +kernel
theorem dX6_parts_36 : decode cX6_parts 36 = .ok (.ldc 93, 2) := by decide +kernel
theorem dX6_parts_38 : decode cX6_parts 38 = .ok (.invokespecial 63, 3) := by decide +kernel
theorem dX6_parts_41 : decode cX6_parts 41 = .ok (.athrow, 1) := by decide +kernel
theorem dX6_parts_42 : decode cX6_parts 42 = .ok (.aload_n 0, 1) := by decide +kernel
theorem dX6_parts_43 : decode cX6_parts 43 = .ok (.getfield 10, 3) := by decide +kernel
theorem dX6_parts_46 : decode cX6_parts 46 = .ok (.iload_n 1, 1) := by decide +kernel
theorem dX6_parts_47 : decode cX6_parts 47 = .ok (.iload_n 2, 1) := by decide +kernel
theorem dX6_parts_48 : decode cX6_parts 48 = .ok (.invokevirtual 95, 3) := by decide +kernel
theorem dX6_parts_51 : decode cX6_parts 51 = .ok (.aload_n 0, 1) := by decide +kernel
theorem dX6_parts_52 : decode cX6_parts 52 = .ok (.getfield 10, 3) := by decide +kernel
theorem dX6_parts_55 : decode cX6_parts 55 = .ok (.getfield 99, 3) := by decide +kernel
theorem dX6_parts_58 : decode cX6_parts 58 = .ok (.iconst (-1), 1) := by decide +kernel
theorem dX6_parts_59 : decode cX6_parts 59 = .ok (.if_icmp .ne 7, 3) := by decide +kernel
theorem dX6_parts_62 : decode cX6_parts 62 = .ok (.iconst (-1), 1) := by decide +kernel
theorem dX6_parts_63 : decode cX6_parts 63 = .ok (.goto 12, 3) := by decide +kernel
theorem dX6_parts_66 : decode cX6_parts 66 = .ok (.aload_n 0, 1) := by decide +kernel
theorem dX6_parts_67 : decode cX6_parts 67 = .ok (.getfield 10, 3) := by decide +kernel
theorem dX6_parts_70 : decode cX6_parts 70 = .ok (.getfield 102, 3) := by decide +kernel
theorem dX6_parts_73 : decode cX6_parts 73 = .ok (.iload_n 3, 1) := by decide +kernel
theorem dX6_parts_74 : decode cX6_parts 74 = .ok (.iaload, 1) := by decide +kernel
theorem dX6_parts_75 : decode cX6_parts 75 = .ok (.ireturn, 1) := by decide +kernel
set_option maxRecDepth 20000 in
theorem ggX6_cores_X6_isSpan : GoodIn wsX6_cores wsX6_isSpan := goodIn_r _ [12] (by decide +kernel) (by decide +kernel)
set_option maxRecDepth 20000 in
theorem gX6_cores_X6_isSpan : GoodIn wsX6_cores (va_wsS RX6 51 yX6_isSpan wsX6_isSpan) := goodIn_app (goodIn_of _ (by decide +kernel)) ggX6_cores_X6_isSpan
set_option maxRecDepth 20000 in
theorem ggX6_cores_X1_seek : GoodIn wsX6_cores wsX1_seek := goodIn_r _ [17, 18, 19, 20, 21, 22, 23, 16, 24, 25, 26, 27, 28, 29, 30, 31, 32, 33, 34, 35, 36, 37, 38, 39, 40, 41, 42, 43, 44, 45, 46, 47, 48, 49, 50, 51, 52, 53, 54, 55, 56, 57, 58, 59, 60, 90, 91, 92, 93, 94, 95, 96, 97, 98, 99, 100, 101, 102, 103, 104, 105] (by decide +kernel) (by decide +kernel)
set_option maxRecDepth 20000 in
theorem gX6_cores_X1_seek : GoodIn wsX6_cores (wsV RX6 95 RX1 yX1_seek wsX1_seek) := goodIn_app (goodIn_of _ (by decide +kernel)) ggX6_cores_X1_seek
set_option maxRecDepth 20000 in
theorem ggX6_cores_X1_takeBest : GoodIn wsX6_cores wsX1_takeBest := goodIn_r _ [64, 26, 30, 55, 90, 91, 92, 93, 94, 95, 96, 97, 98, 99, 100, 101, 102, 103, 104, 105] (by decide +kernel) (by decide +kernel)
set_option maxRecDepth 20000 in
theorem gX6_cores_X1_takeBest : GoodIn wsX6_cores (wsV RX6 106 RX1 yX1_takeBest wsX1_takeBest) := goodIn_app (goodIn_of _ (by decide +kernel)) ggX6_cores_X1_takeBest
set_option maxRecDepth 20000 in
theorem ggX6_cores_X3_add : GoodIn wsX6_cores wsX3_add := goodIn_r _ [69, 70, 71, 72, 73, 74, 81, 82, 83, 84, 85, 86, 87, 88, 89] (by decide +kernel) (by decide +kernel)
set_option maxRecDepth 20000 in
theorem gX6_cores_X3_add : GoodIn wsX6_cores (wsV RX6 115 RX3 yX3_add wsX3_add) := goodIn_app (goodIn_of _ (by decide +kernel)) ggX6_cores_X3_add
theorem dX6_cores_0 : decode cX6_cores 0 = .ok (.iload_n 1, 1) := by decide +kernel
theorem dX6_cores_1 : decode cX6_cores 1 = .ok (.iload_n 2, 1) := by decide +kernel
theorem dX6_cores_2 : decode cX6_cores 2 = .ok (.invokestatic 51, 3) := by decide +kernel
theorem dX6_cores_5 : decode cX6_cores 5 = .ok (.ifCond .ne 13, 3) := by decide +kernel
theorem dX6_cores_8 : decode cX6_cores 8 = .ok (.new 59, 3) := by decide +kernel
theorem dX6_cores_11 : decode cX6_cores 11 = .ok (.dup, 1) := by decide +kernel
theorem dX6_cores_12 : decode cX6_cores 12 = .ok (.ldc 93, 2) := by decide +kernel
theorem dX6_cores_14 : decode cX6_cores 14 = .ok (.invokespecial 63, 3) := by decide +kernel
theorem dX6_cores_17 : decode cX6_cores 17 = .ok (.athrow, 1) := by decide +kernel
theorem dX6_cores_18 : decode cX6_cores 18 = .ok (.aload_n 0, 1) := by decide +kernel
theorem dX6_cores_19 : decode cX6_cores 19 = .ok (.getfield 19, 3) := by decide +kernel
theorem dX6_cores_22 : decode cX6_cores 22 = .ok (.getfield 105, 3) := by decide +kernel
theorem dX6_cores_25 : decode cX6_cores 25 = .ok (.bipush 12, 2) := by decide +kernel
theorem dX6_cores_27 : decode cX6_cores 27 = .ok (.if_icmp .lt 5, 3) := by decide +kernel
theorem dX6_cores_30 : decode cX6_cores 30 = .ok (.iconst (-1), 1) := by decide +kernel
theorem dX6_cores_31 : decode cX6_cores 31 = .ok (.ireturn, 1) := by decide +kernel
theorem dX6_cores_32 : decode cX6_cores 32 = .ok (.aload_n 0, 1) := by decide +kernel
theorem dX6_cores_33 : decode cX6_cores 33 = .ok (.getfield 10, 3) := by decide +kernel
theorem dX6_cores_36 : decode cX6_cores 36 = .ok (.iload_n 1, 1) := by decide +kernel
theorem dX6_cores_37 : decode cX6_cores 37 = .ok (.iload_n 2, 1) := by decide +kernel
theorem dX6_cores_38 : decode cX6_cores 38 = .ok (.invokevirtual 95, 3) := by decide +kernel
theorem dX6_cores_41 : decode cX6_cores 41 = .ok (.aload_n 0, 1) := by decide +kernel
theorem dX6_cores_42 : decode cX6_cores 42 = .ok (.getfield 10, 3) := by decide +kernel
theorem dX6_cores_45 : decode cX6_cores 45 = .ok (.getfield 99, 3) := by decide +kernel
theorem dX6_cores_48 : decode cX6_cores 48 = .ok (.iconst (-1), 1) := by decide +kernel
theorem dX6_cores_49 : decode cX6_cores 49 = .ok (.if_icmp .ne 5, 3) := by decide +kernel
theorem dX6_cores_52 : decode cX6_cores 52 = .ok (.iconst (-1), 1) := by decide +kernel
theorem dX6_cores_53 : decode cX6_cores 53 = .ok (.ireturn, 1) := by decide +kernel
theorem dX6_cores_54 : decode cX6_cores 54 = .ok (.aload_n 0, 1) := by decide +kernel
theorem dX6_cores_55 : decode cX6_cores 55 = .ok (.getfield 10, 3) := by decide +kernel
theorem dX6_cores_58 : decode cX6_cores 58 = .ok (.invokevirtual 106, 3) := by decide +kernel
theorem dX6_cores_61 : decode cX6_cores 61 = .ok (.aload_n 0, 1) := by decide +kernel
theorem dX6_cores_62 : decode cX6_cores 62 = .ok (.getfield 19, 3) := by decide +kernel
theorem dX6_cores_65 : decode cX6_cores 65 = .ok (.iconst 0, 1) := by decide +kernel
theorem dX6_cores_66 : decode cX6_cores 66 = .ok (.bipush 40, 2) := by decide +kernel
theorem dX6_cores_68 : decode cX6_cores 68 = .ok (.aload_n 0, 1) := by decide +kernel
theorem dX6_cores_69 : decode cX6_cores 69 = .ok (.getfield 10, 3) := by decide +kernel
theorem dX6_cores_72 : decode cX6_cores 72 = .ok (.getfield 109, 3) := by decide +kernel
theorem dX6_cores_75 : decode cX6_cores 75 = .ok (.aload_n 0, 1) := by decide +kernel
theorem dX6_cores_76 : decode cX6_cores 76 = .ok (.getfield 10, 3) := by decide +kernel
theorem dX6_cores_79 : decode cX6_cores 79 = .ok (.getfield 112, 3) := by decide +kernel
theorem dX6_cores_82 : decode cX6_cores 82 = .ok (.invokevirtual 115, 3) := by decide +kernel
theorem dX6_cores_85 : decode cX6_cores 85 = .ok (.ireturn, 1) := by decide +kernel
set_option maxRecDepth 20000 in
theorem ggX6_lot_X6_isWithin : GoodIn wsX6_lot wsX6_isWithin := goodIn_r _ [10] (by decide +kernel) (by decide +kernel)
set_option maxRecDepth 20000 in
theorem gX6_lot_X6_isWithin : GoodIn wsX6_lot (va_wsS RX6 55 yX6_isWithin wsX6_isWithin) := goodIn_app (goodIn_of _ (by decide +kernel)) ggX6_lot_X6_isWithin
set_option maxRecDepth 20000 in
theorem ggX6_lot_X3_add : GoodIn wsX6_lot wsX3_add := goodIn_r _ [15, 16, 17, 18, 19, 20, 27, 28, 29, 30, 31, 32, 33, 34, 35] (by decide +kernel) (by decide +kernel)
set_option maxRecDepth 20000 in
theorem gX6_lot_X3_add : GoodIn wsX6_lot (wsV RX6 115 RX3 yX3_add wsX3_add) := goodIn_app (goodIn_of _ (by decide +kernel)) ggX6_lot_X3_add
theorem dX6_lot_0 : decode cX6_lot 0 = .ok (.iload_n 1, 1) := by decide +kernel
theorem dX6_lot_1 : decode cX6_lot 1 = .ok (.iconst 1, 1) := by decide +kernel
theorem dX6_lot_2 : decode cX6_lot 2 = .ok (.if_icmp .eq 8, 3) := by decide +kernel
theorem dX6_lot_5 : decode cX6_lot 5 = .ok (.iload_n 1, 1) := by decide +kernel
theorem dX6_lot_6 : decode cX6_lot 6 = .ok (.iconst 2, 1) := by decide +kernel
theorem dX6_lot_7 : decode cX6_lot 7 = .ok (.if_icmp .ne 14, 3) := by decide +kernel
theorem dX6_lot_10 : decode cX6_lot 10 = .ok (.iload_n 2, 1) := by decide +kernel
theorem dX6_lot_11 : decode cX6_lot 11 = .ok (.iconst 0, 1) := by decide +kernel
theorem dX6_lot_12 : decode cX6_lot 12 = .ok (.sipush 10000, 3) := by decide +kernel
theorem dX6_lot_15 : decode cX6_lot 15 = .ok (.invokestatic 55, 3) := by decide +kernel
theorem dX6_lot_18 : decode cX6_lot 18 = .ok (.ifCond .ne 13, 3) := by decide +kernel
theorem dX6_lot_21 : decode cX6_lot 21 = .ok (.new 59, 3) := by decide +kernel
theorem dX6_lot_24 : decode cX6_lot 24 = .ok (.dup, 1) := by decide +kernel
theorem dX6_lot_25 : decode cX6_lot 25 = .ok (.ldc 116, 2) := by decide +kernel
theorem dX6_lot_27 : decode cX6_lot 27 = .ok (.invokespecial 63, 3) := by decide +kernel
theorem dX6_lot_30 : decode cX6_lot 30 = .ok (.athrow, 1) := by decide +kernel
theorem dX6_lot_31 : decode cX6_lot 31 = .ok (.aload_n 0, 1) := by decide +kernel
theorem dX6_lot_32 : decode cX6_lot 32 = .ok (.getfield 19, 3) := by decide +kernel
theorem dX6_lot_35 : decode cX6_lot 35 = .ok (.getfield 105, 3) := by decide +kernel
theorem dX6_lot_38 : decode cX6_lot 38 = .ok (.bipush 12, 2) := by decide +kernel
theorem dX6_lot_40 : decode cX6_lot 40 = .ok (.if_icmp .lt 13, 3) := by decide +kernel
theorem dX6_lot_43 : decode cX6_lot 43 = .ok (.new 70, 3) := by decide +kernel
theorem dX6_lot_46 : decode cX6_lot 46 = .ok (.dup, 1) := by decide +kernel
theorem dX6_lot_47 : decode cX6_lot 47 = .ok (.ldc 118, 2) := by decide +kernel
theorem dX6_lot_49 : decode cX6_lot 49 = .ok (.invokespecial 74, 3) := by decide +kernel
theorem dX6_lot_52 : decode cX6_lot 52 = .ok (.athrow, 1) := by decide +kernel
theorem dX6_lot_53 : decode cX6_lot 53 = .ok (.aload_n 0, 1) := by decide +kernel
theorem dX6_lot_54 : decode cX6_lot 54 = .ok (.getfield 19, 3) := by decide +kernel
theorem dX6_lot_57 : decode cX6_lot 57 = .ok (.iload_n 1, 1) := by decide +kernel
theorem dX6_lot_58 : decode cX6_lot 58 = .ok (.iload_n 2, 1) := by decide +kernel
theorem dX6_lot_59 : decode cX6_lot 59 = .ok (.iconst (-1), 1) := by decide +kernel
theorem dX6_lot_60 : decode cX6_lot 60 = .ok (.iconst (-1), 1) := by decide +kernel
theorem dX6_lot_61 : decode cX6_lot 61 = .ok (.invokevirtual 115, 3) := by decide +kernel
theorem dX6_lot_64 : decode cX6_lot 64 = .ok (.ireturn, 1) := by decide +kernel
set_option maxRecDepth 20000 in
theorem ggX6_make_X6_isNumberOf : GoodIn wsX6_make wsX6_isNumberOf := goodIn_r _ [11] (by decide +kernel) (by decide +kernel)
set_option maxRecDepth 20000 in
theorem gX6_make_X6_isNumberOf : GoodIn wsX6_make (va_wsS RX6 79 yX6_isNumberOf wsX6_isNumberOf) := goodIn_app (goodIn_of _ (by decide +kernel)) ggX6_make_X6_isNumberOf
set_option maxRecDepth 20000 in
theorem ggX6_make_X6_isWithin : GoodIn wsX6_make wsX6_isWithin := goodIn_r _ [14] (by decide +kernel) (by decide +kernel)
set_option maxRecDepth 20000 in
theorem gX6_make_X6_isWithin : GoodIn wsX6_make (va_wsS RX6 55 yX6_isWithin wsX6_isWithin) := goodIn_app (goodIn_of _ (by decide +kernel)) ggX6_make_X6_isWithin
set_option maxRecDepth 20000 in
theorem ggX6_make_X3_areOfTheirKinds : GoodIn wsX6_make wsX3_areOfTheirKinds := goodIn_r _ [19, 20, 44, 45, 46, 47, 48, 49, 50, 51, 52] (by decide +kernel) (by decide +kernel)
set_option maxRecDepth 20000 in
theorem gX6_make_X3_areOfTheirKinds : GoodIn wsX6_make (wsV RX6 122 RX3 yX3_areOfTheirKinds wsX3_areOfTheirKinds) := goodIn_app (goodIn_of _ (by decide +kernel)) ggX6_make_X3_areOfTheirKinds
set_option maxRecDepth 20000 in
theorem ggX6_make_X3_haveAll : GoodIn wsX6_make wsX3_haveAll := goodIn_r _ [24, 25, 44, 45, 46, 47, 48, 49, 50, 51, 52] (by decide +kernel) (by decide +kernel)
set_option maxRecDepth 20000 in
theorem gX6_make_X3_haveAll : GoodIn wsX6_make (wsV RX6 130 RX3 yX3_haveAll wsX3_haveAll) := goodIn_app (goodIn_of _ (by decide +kernel)) ggX6_make_X3_haveAll
set_option maxRecDepth 20000 in
theorem ggX6_make_X3_addBatch : GoodIn wsX6_make wsX3_addBatch := goodIn_r _ [29, 30, 31, 32, 33, 34, 35, 18, 36, 25, 37, 44, 45, 46, 47, 48, 49, 50, 51, 52] (by decide +kernel) (by decide +kernel)
set_option maxRecDepth 20000 in
theorem gX6_make_X3_addBatch : GoodIn wsX6_make (wsV RX6 134 RX3 yX3_addBatch wsX3_addBatch) := goodIn_app (goodIn_of _ (by decide +kernel)) ggX6_make_X3_addBatch
theorem dX6_make_0 : decode cX6_make 0 = .ok (.iload_n 1, 1) := by decide +kernel
theorem dX6_make_1 : decode cX6_make 1 = .ok (.aload_n 0, 1) := by decide +kernel
theorem dX6_make_2 : decode cX6_make 2 = .ok (.getfield 19, 3) := by decide +kernel
theorem dX6_make_5 : decode cX6_make 5 = .ok (.getfield 105, 3) := by decide +kernel
theorem dX6_make_8 : decode cX6_make 8 = .ok (.invokestatic 79, 3) := by decide +kernel
theorem dX6_make_11 : decode cX6_make 11 = .ok (.ifCond .eq 31, 3) := by decide +kernel
theorem dX6_make_14 : decode cX6_make 14 = .ok (.iload_n 2, 1) := by decide +kernel
theorem dX6_make_15 : decode cX6_make 15 = .ok (.aload_n 0, 1) := by decide +kernel
theorem dX6_make_16 : decode cX6_make 16 = .ok (.getfield 19, 3) := by decide +kernel
theorem dX6_make_19 : decode cX6_make 19 = .ok (.getfield 105, 3) := by decide +kernel
theorem dX6_make_22 : decode cX6_make 22 = .ok (.invokestatic 79, 3) := by decide +kernel
theorem dX6_make_25 : decode cX6_make 25 = .ok (.ifCond .eq 17, 3) := by decide +kernel
theorem dX6_make_28 : decode cX6_make 28 = .ok (.iload_n 3, 1) := by decide +kernel
theorem dX6_make_29 : decode cX6_make 29 = .ok (.aload_n 0, 1) := by decide +kernel
theorem dX6_make_30 : decode cX6_make 30 = .ok (.getfield 19, 3) := by decide +kernel
theorem dX6_make_33 : decode cX6_make 33 = .ok (.getfield 105, 3) := by decide +kernel
theorem dX6_make_36 : decode cX6_make 36 = .ok (.invokestatic 79, 3) := by decide +kernel
theorem dX6_make_39 : decode cX6_make 39 = .ok (.ifCond .ne 13, 3) := by decide +kernel
theorem dX6_make_42 : decode cX6_make 42 = .ok (.new 82, 3) := by decide +kernel
theorem dX6_make_45 : decode cX6_make 45 = .ok (.dup, 1) := by decide +kernel
theorem dX6_make_46 : decode cX6_make 46 = .ok (.ldc 120, 2) := by decide +kernel
theorem dX6_make_48 : decode cX6_make 48 = .ok (.invokespecial 86, 3) := by decide +kernel
theorem dX6_make_51 : decode cX6_make 51 = .ok (.athrow, 1) := by decide +kernel
theorem dX6_make_52 : decode cX6_make 52 = .ok (.iload 4, 2) := by decide +kernel
theorem dX6_make_54 : decode cX6_make 54 = .ok (.iconst 1, 1) := by decide +kernel
theorem dX6_make_55 : decode cX6_make 55 = .ok (.sipush 1000, 3) := by decide +kernel
theorem dX6_make_58 : decode cX6_make 58 = .ok (.invokestatic 55, 3) := by decide +kernel
theorem dX6_make_61 : decode cX6_make 61 = .ok (.ifCond .eq 16, 3) := by decide +kernel
theorem dX6_make_64 : decode cX6_make 64 = .ok (.aload_n 0, 1) := by decide +kernel
theorem dX6_make_65 : decode cX6_make 65 = .ok (.getfield 19, 3) := by decide +kernel
theorem dX6_make_68 : decode cX6_make 68 = .ok (.iload_n 1, 1) := by decide +kernel
theorem dX6_make_69 : decode cX6_make 69 = .ok (.iload_n 2, 1) := by decide +kernel
theorem dX6_make_70 : decode cX6_make 70 = .ok (.iload_n 3, 1) := by decide +kernel
theorem dX6_make_71 : decode cX6_make 71 = .ok (.invokevirtual 122, 3) := by decide +kernel
theorem dX6_make_74 : decode cX6_make 74 = .ok (.ifCond .ne 13, 3) := by decide +kernel
theorem dX6_make_77 : decode cX6_make 77 = .ok (.new 59, 3) := by decide +kernel
theorem dX6_make_80 : decode cX6_make 80 = .ok (.dup, 1) := by decide +kernel
theorem dX6_make_81 : decode cX6_make 81 = .ok (.ldc 125, 2) := by decide +kernel
theorem dX6_make_83 : decode cX6_make 83 = .ok (.invokespecial 63, 3) := by decide +kernel
theorem dX6_make_86 : decode cX6_make 86 = .ok (.athrow, 1) := by decide +kernel
theorem dX6_make_87 : decode cX6_make 87 = .ok (.aload_n 0, 1) := by decide +kernel
theorem dX6_make_88 : decode cX6_make 88 = .ok (.getfield 19, 3) := by decide +kernel
theorem dX6_make_91 : decode cX6_make 91 = .ok (.getfield 127, 3) := by decide +kernel
theorem dX6_make_94 : decode cX6_make 94 = .ok (.bipush 60, 2) := by decide +kernel
theorem dX6_make_96 : decode cX6_make 96 = .ok (.if_icmp .ge 18, 3) := by decide +kernel
theorem dX6_make_99 : decode cX6_make 99 = .ok (.aload_n 0, 1) := by decide +kernel
theorem dX6_make_100 : decode cX6_make 100 = .ok (.getfield 19, 3) := by decide +kernel
theorem dX6_make_103 : decode cX6_make 103 = .ok (.iload_n 1, 1) := by decide +kernel
theorem dX6_make_104 : decode cX6_make 104 = .ok (.iload_n 2, 1) := by decide +kernel
theorem dX6_make_105 : decode cX6_make 105 = .ok (.iload_n 3, 1) := by decide +kernel
theorem dX6_make_106 : decode cX6_make 106 = .ok (.iload 4, 2) := by decide +kernel
theorem dX6_make_108 : decode cX6_make 108 = .ok (.invokevirtual 130, 3) := by decide +kernel
theorem dX6_make_111 : decode cX6_make 111 = .ok (.ifCond .ne 5, 3) := by decide +kernel
theorem dX6_make_114 : decode cX6_make 114 = .ok (.iconst (-1), 1) := by decide +kernel
theorem dX6_make_115 : decode cX6_make 115 = .ok (.ireturn, 1) := by decide +kernel
theorem dX6_make_116 : decode cX6_make 116 = .ok (.aload_n 0, 1) := by decide +kernel
theorem dX6_make_117 : decode cX6_make 117 = .ok (.getfield 19, 3) := by decide +kernel
theorem dX6_make_120 : decode cX6_make 120 = .ok (.iload_n 1, 1) := by decide +kernel
theorem dX6_make_121 : decode cX6_make 121 = .ok (.iload_n 2, 1) := by decide +kernel
theorem dX6_make_122 : decode cX6_make 122 = .ok (.iload_n 3, 1) := by decide +kernel
theorem dX6_make_123 : decode cX6_make 123 = .ok (.iload 4, 2) := by decide +kernel
theorem dX6_make_125 : decode cX6_make 125 = .ok (.invokevirtual 134, 3) := by decide +kernel
theorem dX6_make_128 : decode cX6_make 128 = .ok (.ireturn, 1) := by decide +kernel
set_option maxRecDepth 20000 in
theorem ggX6_look_X6_isNumberOf : GoodIn wsX6_look wsX6_isNumberOf := goodIn_r _ [17] (by decide +kernel) (by decide +kernel)
set_option maxRecDepth 20000 in
theorem gX6_look_X6_isNumberOf : GoodIn wsX6_look (va_wsS RX6 79 yX6_isNumberOf wsX6_isNumberOf) := goodIn_app (goodIn_of _ (by decide +kernel)) ggX6_look_X6_isNumberOf
set_option maxRecDepth 20000 in
theorem ggX6_look_X5_batchesThat : GoodIn wsX6_look wsX5_batchesThat := goodIn_r _ [22, 23, 24, 25, 26, 27, 28, 21, 29, 30, 31, 54, 55, 56, 57, 58, 59] (by decide +kernel) (by decide +kernel)
set_option maxRecDepth 20000 in
theorem gX6_look_X5_batchesThat : GoodIn wsX6_look (wsV RX6 155 RX5 yX5_batchesThat wsX5_batchesThat) := goodIn_app (goodIn_of _ (by decide +kernel)) ggX6_look_X5_batchesThat
set_option maxRecDepth 20000 in
theorem ggX6_look_X3_batchesOf : GoodIn wsX6_look wsX3_batchesOf := goodIn_r _ [36, 37, 38, 45, 46, 47, 48, 49, 50, 51, 52, 53] (by decide +kernel) (by decide +kernel)
set_option maxRecDepth 20000 in
theorem gX6_look_X3_batchesOf : GoodIn wsX6_look (wsV RX6 159 RX3 yX3_batchesOf wsX3_batchesOf) := goodIn_app (goodIn_of _ (by decide +kernel)) ggX6_look_X3_batchesOf
theorem dX6_look_0 : decode cX6_look 0 = .ok (.iload_n 1, 1) := by decide +kernel
theorem dX6_look_1 : decode cX6_look 1 = .ok (.aload_n 0, 1) := by decide +kernel
theorem dX6_look_2 : decode cX6_look 2 = .ok (.getfield 19, 3) := by decide +kernel
theorem dX6_look_5 : decode cX6_look 5 = .ok (.getfield 105, 3) := by decide +kernel
theorem dX6_look_8 : decode cX6_look 8 = .ok (.invokestatic 79, 3) := by decide +kernel
theorem dX6_look_11 : decode cX6_look 11 = .ok (.ifCond .ne 13, 3) := by decide +kernel
theorem dX6_look_14 : decode cX6_look 14 = .ok (.new 82, 3) := by decide +kernel
theorem dX6_look_17 : decode cX6_look 17 = .ok (.dup, 1) := by decide +kernel
theorem dX6_look_18 : decode cX6_look 18 = .ok (.ldc 120, 2) := by decide +kernel
theorem dX6_look_20 : decode cX6_look 20 = .ok (.invokespecial 86, 3) := by decide +kernel
theorem dX6_look_23 : decode cX6_look 23 = .ok (.athrow, 1) := by decide +kernel
theorem dX6_look_24 : decode cX6_look 24 = .ok (.iload_n 2, 1) := by decide +kernel
theorem dX6_look_25 : decode cX6_look 25 = .ok (.tableswitch 113 0 5 #[39, 49, 59, 69, 79, 89], 39) := by decide +kernel
theorem dX6_look_64 : decode cX6_look 64 = .ok (.aload_n 0, 1) := by decide +kernel
theorem dX6_look_65 : decode cX6_look 65 = .ok (.getfield 19, 3) := by decide +kernel
theorem dX6_look_68 : decode cX6_look 68 = .ok (.getfield 137, 3) := by decide +kernel
theorem dX6_look_71 : decode cX6_look 71 = .ok (.iload_n 1, 1) := by decide +kernel
theorem dX6_look_72 : decode cX6_look 72 = .ok (.iaload, 1) := by decide +kernel
theorem dX6_look_73 : decode cX6_look 73 = .ok (.ireturn, 1) := by decide +kernel
theorem dX6_look_74 : decode cX6_look 74 = .ok (.aload_n 0, 1) := by decide +kernel
theorem dX6_look_75 : decode cX6_look 75 = .ok (.getfield 19, 3) := by decide +kernel
theorem dX6_look_78 : decode cX6_look 78 = .ok (.getfield 140, 3) := by decide +kernel
theorem dX6_look_81 : decode cX6_look 81 = .ok (.iload_n 1, 1) := by decide +kernel
theorem dX6_look_82 : decode cX6_look 82 = .ok (.iaload, 1) := by decide +kernel
theorem dX6_look_83 : decode cX6_look 83 = .ok (.ireturn, 1) := by decide +kernel
theorem dX6_look_84 : decode cX6_look 84 = .ok (.aload_n 0, 1) := by decide +kernel
theorem dX6_look_85 : decode cX6_look 85 = .ok (.getfield 19, 3) := by decide +kernel
theorem dX6_look_88 : decode cX6_look 88 = .ok (.getfield 143, 3) := by decide +kernel
theorem dX6_look_91 : decode cX6_look 91 = .ok (.iload_n 1, 1) := by decide +kernel
theorem dX6_look_92 : decode cX6_look 92 = .ok (.iaload, 1) := by decide +kernel
theorem dX6_look_93 : decode cX6_look 93 = .ok (.ireturn, 1) := by decide +kernel
theorem dX6_look_94 : decode cX6_look 94 = .ok (.aload_n 0, 1) := by decide +kernel
theorem dX6_look_95 : decode cX6_look 95 = .ok (.getfield 19, 3) := by decide +kernel
theorem dX6_look_98 : decode cX6_look 98 = .ok (.getfield 146, 3) := by decide +kernel
theorem dX6_look_101 : decode cX6_look 101 = .ok (.iload_n 1, 1) := by decide +kernel
theorem dX6_look_102 : decode cX6_look 102 = .ok (.iaload, 1) := by decide +kernel
theorem dX6_look_103 : decode cX6_look 103 = .ok (.ireturn, 1) := by decide +kernel
theorem dX6_look_104 : decode cX6_look 104 = .ok (.aload_n 0, 1) := by decide +kernel
theorem dX6_look_105 : decode cX6_look 105 = .ok (.getfield 19, 3) := by decide +kernel
theorem dX6_look_108 : decode cX6_look 108 = .ok (.getfield 149, 3) := by decide +kernel
theorem dX6_look_111 : decode cX6_look 111 = .ok (.iload_n 1, 1) := by decide +kernel
theorem dX6_look_112 : decode cX6_look 112 = .ok (.iaload, 1) := by decide +kernel
theorem dX6_look_113 : decode cX6_look 113 = .ok (.ireturn, 1) := by decide +kernel
theorem dX6_look_114 : decode cX6_look 114 = .ok (.aload_n 0, 1) := by decide +kernel
theorem dX6_look_115 : decode cX6_look 115 = .ok (.getfield 19, 3) := by decide +kernel
theorem dX6_look_118 : decode cX6_look 118 = .ok (.iload_n 1, 1) := by decide +kernel
theorem dX6_look_119 : decode cX6_look 119 = .ok (.aload_n 0, 1) := by decide +kernel
theorem dX6_look_120 : decode cX6_look 120 = .ok (.getfield 26, 3) := by decide +kernel
theorem dX6_look_123 : decode cX6_look 123 = .ok (.iconst 1, 1) := by decide +kernel
theorem dX6_look_124 : decode cX6_look 124 = .ok (.aload_n 0, 1) := by decide +kernel
theorem dX6_look_125 : decode cX6_look 125 = .ok (.getfield 26, 3) := by decide +kernel
theorem dX6_look_128 : decode cX6_look 128 = .ok (.getfield 152, 3) := by decide +kernel
theorem dX6_look_131 : decode cX6_look 131 = .ok (.invokevirtual 155, 3) := by decide +kernel
theorem dX6_look_134 : decode cX6_look 134 = .ok (.invokevirtual 159, 3) := by decide +kernel
theorem dX6_look_137 : decode cX6_look 137 = .ok (.ireturn, 1) := by decide +kernel
theorem dX6_look_138 : decode cX6_look 138 = .ok (.new 163, 3) := by decide +kernel
theorem dX6_look_141 : decode cX6_look 141 = .ok (.dup, 1) := by decide +kernel
theorem dX6_look_142 : decode cX6_look 142 = .ok (.ldc 165, 2) := by decide +kernel
theorem dX6_look_144 : decode cX6_look 144 = .ok (.invokespecial 167, 3) := by decide +kernel
theorem dX6_look_147 : decode cX6_look 147 = .ok (.athrow, 1) := by decide +kernel
set_option maxRecDepth 20000 in
theorem ggX6_trial_X6_isNumberOf : GoodIn wsX6_trial wsX6_isNumberOf := goodIn_r _ [10] (by decide +kernel) (by decide +kernel)
set_option maxRecDepth 20000 in
theorem gX6_trial_X6_isNumberOf : GoodIn wsX6_trial (va_wsS RX6 79 yX6_isNumberOf wsX6_isNumberOf) := goodIn_app (goodIn_of _ (by decide +kernel)) ggX6_trial_X6_isNumberOf
set_option maxRecDepth 20000 in
theorem ggX6_trial_X5_add : GoodIn wsX6_trial wsX5_add := goodIn_r _ [15, 16, 17, 18, 19, 20, 21, 37, 38, 39, 40, 41, 42] (by decide +kernel) (by decide +kernel)
set_option maxRecDepth 20000 in
theorem gX6_trial_X5_add : GoodIn wsX6_trial (wsV RX6 171 RX5 yX5_add wsX5_add) := goodIn_app (goodIn_of _ (by decide +kernel)) ggX6_trial_X5_add
theorem dX6_trial_0 : decode cX6_trial 0 = .ok (.iload_n 1, 1) := by decide +kernel
theorem dX6_trial_1 : decode cX6_trial 1 = .ok (.aload_n 0, 1) := by decide +kernel
theorem dX6_trial_2 : decode cX6_trial 2 = .ok (.getfield 19, 3) := by decide +kernel
theorem dX6_trial_5 : decode cX6_trial 5 = .ok (.getfield 127, 3) := by decide +kernel
theorem dX6_trial_8 : decode cX6_trial 8 = .ok (.invokestatic 79, 3) := by decide +kernel
theorem dX6_trial_11 : decode cX6_trial 11 = .ok (.ifCond .ne 13, 3) := by decide +kernel
theorem dX6_trial_14 : decode cX6_trial 14 = .ok (.new 82, 3) := by decide +kernel
theorem dX6_trial_17 : decode cX6_trial 17 = .ok (.dup, 1) := by decide +kernel
theorem dX6_trial_18 : decode cX6_trial 18 = .ok (.ldc 168, 2) := by decide +kernel
theorem dX6_trial_20 : decode cX6_trial 20 = .ok (.invokespecial 86, 3) := by decide +kernel
theorem dX6_trial_23 : decode cX6_trial 23 = .ok (.athrow, 1) := by decide +kernel
theorem dX6_trial_24 : decode cX6_trial 24 = .ok (.aload_n 0, 1) := by decide +kernel
theorem dX6_trial_25 : decode cX6_trial 25 = .ok (.getfield 26, 3) := by decide +kernel
theorem dX6_trial_28 : decode cX6_trial 28 = .ok (.getfield 170, 3) := by decide +kernel
theorem dX6_trial_31 : decode cX6_trial 31 = .ok (.bipush 100, 2) := by decide +kernel
theorem dX6_trial_33 : decode cX6_trial 33 = .ok (.if_icmp .lt 7, 3) := by decide +kernel
theorem dX6_trial_36 : decode cX6_trial 36 = .ok (.iconst (-1), 1) := by decide +kernel
theorem dX6_trial_37 : decode cX6_trial 37 = .ok (.goto 12, 3) := by decide +kernel
theorem dX6_trial_40 : decode cX6_trial 40 = .ok (.aload_n 0, 1) := by decide +kernel
theorem dX6_trial_41 : decode cX6_trial 41 = .ok (.getfield 26, 3) := by decide +kernel
theorem dX6_trial_44 : decode cX6_trial 44 = .ok (.iload_n 1, 1) := by decide +kernel
theorem dX6_trial_45 : decode cX6_trial 45 = .ok (.iload_n 2, 1) := by decide +kernel
theorem dX6_trial_46 : decode cX6_trial 46 = .ok (.invokevirtual 171, 3) := by decide +kernel
theorem dX6_trial_49 : decode cX6_trial 49 = .ok (.ireturn, 1) := by decide +kernel
set_option maxRecDepth 20000 in
theorem ggX6_undo_X6_isNumberOf : GoodIn wsX6_undo wsX6_isNumberOf := goodIn_r _ [8] (by decide +kernel) (by decide +kernel)
set_option maxRecDepth 20000 in
theorem gX6_undo_X6_isNumberOf : GoodIn wsX6_undo (va_wsS RX6 79 yX6_isNumberOf wsX6_isNumberOf) := goodIn_app (goodIn_of _ (by decide +kernel)) ggX6_undo_X6_isNumberOf
set_option maxRecDepth 20000 in
theorem ggX6_undo_X5_takeBack : GoodIn wsX6_undo wsX5_takeBack := goodIn_r _ [13, 14, 15, 22, 23, 24, 25, 26, 27] (by decide +kernel) (by decide +kernel)
set_option maxRecDepth 20000 in
theorem gX6_undo_X5_takeBack : GoodIn wsX6_undo (wsV RX6 176 RX5 yX5_takeBack wsX5_takeBack) := goodIn_app (goodIn_of _ (by decide +kernel)) ggX6_undo_X5_takeBack
theorem dX6_undo_0 : decode cX6_undo 0 = .ok (.iload_n 1, 1) := by decide +kernel
theorem dX6_undo_1 : decode cX6_undo 1 = .ok (.aload_n 0, 1) := by decide +kernel
theorem dX6_undo_2 : decode cX6_undo 2 = .ok (.getfield 26, 3) := by decide +kernel
theorem dX6_undo_5 : decode cX6_undo 5 = .ok (.getfield 170, 3) := by decide +kernel
theorem dX6_undo_8 : decode cX6_undo 8 = .ok (.invokestatic 79, 3) := by decide +kernel
theorem dX6_undo_11 : decode cX6_undo 11 = .ok (.ifCond .ne 13, 3) := by decide +kernel
theorem dX6_undo_14 : decode cX6_undo 14 = .ok (.new 82, 3) := by decide +kernel
theorem dX6_undo_17 : decode cX6_undo 17 = .ok (.dup, 1) := by decide +kernel
theorem dX6_undo_18 : decode cX6_undo 18 = .ok (.ldc 174, 2) := by decide +kernel
theorem dX6_undo_20 : decode cX6_undo 20 = .ok (.invokespecial 86, 3) := by decide +kernel
theorem dX6_undo_23 : decode cX6_undo 23 = .ok (.athrow, 1) := by decide +kernel
theorem dX6_undo_24 : decode cX6_undo 24 = .ok (.aload_n 0, 1) := by decide +kernel
theorem dX6_undo_25 : decode cX6_undo 25 = .ok (.getfield 26, 3) := by decide +kernel
theorem dX6_undo_28 : decode cX6_undo 28 = .ok (.iload_n 1, 1) := by decide +kernel
theorem dX6_undo_29 : decode cX6_undo 29 = .ok (.invokevirtual 176, 3) := by decide +kernel
theorem dX6_undo_32 : decode cX6_undo 32 = .ok (.ireturn, 1) := by decide +kernel
set_option maxRecDepth 20000 in
theorem ggX6_days_X6_isWithin : GoodIn wsX6_days wsX6_isWithin := goodIn_r _ [12] (by decide +kernel) (by decide +kernel)
set_option maxRecDepth 20000 in
theorem gX6_days_X6_isWithin : GoodIn wsX6_days (va_wsS RX6 55 yX6_isWithin wsX6_isWithin) := goodIn_app (goodIn_of _ (by decide +kernel)) ggX6_days_X6_isWithin
theorem dX6_days_0 : decode cX6_days 0 = .ok (.iload_n 1, 1) := by decide +kernel
theorem dX6_days_1 : decode cX6_days 1 = .ok (.iconst 0, 1) := by decide +kernel
theorem dX6_days_2 : decode cX6_days 2 = .ok (.bipush 100, 2) := by decide +kernel
theorem dX6_days_4 : decode cX6_days 4 = .ok (.invokestatic 55, 3) := by decide +kernel
theorem dX6_days_7 : decode cX6_days 7 = .ok (.ifCond .ne 13, 3) := by decide +kernel
theorem dX6_days_10 : decode cX6_days 10 = .ok (.new 59, 3) := by decide +kernel
theorem dX6_days_13 : decode cX6_days 13 = .ok (.dup, 1) := by decide +kernel
theorem dX6_days_14 : decode cX6_days 14 = .ok (.ldc 180, 2) := by decide +kernel
theorem dX6_days_16 : decode cX6_days 16 = .ok (.invokespecial 63, 3) := by decide +kernel
theorem dX6_days_19 : decode cX6_days 19 = .ok (.athrow, 1) := by decide +kernel
theorem dX6_days_20 : decode cX6_days 20 = .ok (.aload_n 0, 1) := by decide +kernel
theorem dX6_days_21 : decode cX6_days 21 = .ok (.getfield 26, 3) := by decide +kernel
theorem dX6_days_24 : decode cX6_days 24 = .ok (.aload_n 0, 1) := by decide +kernel
theorem dX6_days_25 : decode cX6_days 25 = .ok (.getfield 26, 3) := by decide +kernel
theorem dX6_days_28 : decode cX6_days 28 = .ok (.getfield 152, 3) := by decide +kernel
theorem dX6_days_31 : decode cX6_days 31 = .ok (.iload_n 1, 1) := by decide +kernel
theorem dX6_days_32 : decode cX6_days 32 = .ok (.iadd, 1) := by decide +kernel
theorem dX6_days_33 : decode cX6_days 33 = .ok (.sipush 1000, 3) := by decide +kernel
theorem dX6_days_36 : decode cX6_days 36 = .ok (.invokestatic 182, 3) := by decide +kernel
theorem dX6_days_39 : decode cX6_days 39 = .ok (.putfield 152, 3) := by decide +kernel
theorem dX6_days_42 : decode cX6_days 42 = .ok (.aload_n 0, 1) := by decide +kernel
theorem dX6_days_43 : decode cX6_days 43 = .ok (.getfield 26, 3) := by decide +kernel
theorem dX6_days_46 : decode cX6_days 46 = .ok (.getfield 152, 3) := by decide +kernel
theorem dX6_days_49 : decode cX6_days 49 = .ok (.ireturn, 1) := by decide +kernel
set_option maxRecDepth 20000 in
theorem ggX6_explain_X6_isWithin : GoodIn wsX6_explain wsX6_isWithin := goodIn_r _ [12] (by decide +kernel) (by decide +kernel)
set_option maxRecDepth 20000 in
theorem gX6_explain_X6_isWithin : GoodIn wsX6_explain (va_wsS RX6 55 yX6_isWithin wsX6_isWithin) := goodIn_app (goodIn_of _ (by decide +kernel)) ggX6_explain_X6_isWithin
set_option maxRecDepth 20000 in
theorem ggX6_explain_X5_batchesThat : GoodIn wsX6_explain wsX5_batchesThat := goodIn_r _ [17, 18, 19, 20, 21, 22, 23, 16, 24, 25, 26, 77, 78, 79, 80, 81, 82] (by decide +kernel) (by decide +kernel)
set_option maxRecDepth 20000 in
theorem gX6_explain_X5_batchesThat : GoodIn wsX6_explain (wsV RX6 155 RX5 yX5_batchesThat wsX5_batchesThat) := goodIn_app (goodIn_of _ (by decide +kernel)) ggX6_explain_X5_batchesThat
set_option maxRecDepth 20000 in
theorem ggX6_explain_X0_seek : GoodIn wsX6_explain wsX0_seek := goodIn_r _ [31, 32, 33, 34, 35, 36, 37, 38, 39, 40, 41, 42, 43, 44, 30, 45, 46, 47, 48, 49, 50, 51, 52, 53, 54, 55, 56, 57, 58, 59, 60, 61, 62, 63, 64, 65, 72, 73, 74, 75, 76, 83, 84, 85, 86, 87, 88, 89, 90, 91] (by decide +kernel) (by decide +kernel)
set_option maxRecDepth 20000 in
theorem gX6_explain_X0_seek : GoodIn wsX6_explain (wsV RX6 188 RX0 yX0_seek wsX0_seek) := goodIn_app (goodIn_of _ (by decide +kernel)) ggX6_explain_X0_seek
theorem dX6_explain_0 : decode cX6_explain 0 = .ok (.iload_n 2, 1) := by decide +kernel
theorem dX6_explain_1 : decode cX6_explain 1 = .ok (.iconst 0, 1) := by decide +kernel
theorem dX6_explain_2 : decode cX6_explain 2 = .ok (.iconst 2, 1) := by decide +kernel
theorem dX6_explain_3 : decode cX6_explain 3 = .ok (.invokestatic 55, 3) := by decide +kernel
theorem dX6_explain_6 : decode cX6_explain 6 = .ok (.ifCond .ne 13, 3) := by decide +kernel
theorem dX6_explain_9 : decode cX6_explain 9 = .ok (.new 163, 3) := by decide +kernel
theorem dX6_explain_12 : decode cX6_explain 12 = .ok (.dup, 1) := by decide +kernel
theorem dX6_explain_13 : decode cX6_explain 13 = .ok (.ldc 165, 2) := by decide +kernel
theorem dX6_explain_15 : decode cX6_explain 15 = .ok (.invokespecial 167, 3) := by decide +kernel
theorem dX6_explain_18 : decode cX6_explain 18 = .ok (.athrow, 1) := by decide +kernel
theorem dX6_explain_19 : decode cX6_explain 19 = .ok (.aload_n 0, 1) := by decide +kernel
theorem dX6_explain_20 : decode cX6_explain 20 = .ok (.getfield 33, 3) := by decide +kernel
theorem dX6_explain_23 : decode cX6_explain 23 = .ok (.aload_n 0, 1) := by decide +kernel
theorem dX6_explain_24 : decode cX6_explain 24 = .ok (.getfield 19, 3) := by decide +kernel
theorem dX6_explain_27 : decode cX6_explain 27 = .ok (.aload_n 0, 1) := by decide +kernel
theorem dX6_explain_28 : decode cX6_explain 28 = .ok (.getfield 26, 3) := by decide +kernel
theorem dX6_explain_31 : decode cX6_explain 31 = .ok (.iconst 1, 1) := by decide +kernel
theorem dX6_explain_32 : decode cX6_explain 32 = .ok (.iload_n 1, 1) := by decide +kernel
theorem dX6_explain_33 : decode cX6_explain 33 = .ok (.invokevirtual 155, 3) := by decide +kernel
theorem dX6_explain_36 : decode cX6_explain 36 = .ok (.aload_n 0, 1) := by decide +kernel
theorem dX6_explain_37 : decode cX6_explain 37 = .ok (.getfield 26, 3) := by decide +kernel
theorem dX6_explain_40 : decode cX6_explain 40 = .ok (.iconst 0, 1) := by decide +kernel
theorem dX6_explain_41 : decode cX6_explain 41 = .ok (.iload_n 1, 1) := by decide +kernel
theorem dX6_explain_42 : decode cX6_explain 42 = .ok (.invokevirtual 155, 3) := by decide +kernel
theorem dX6_explain_45 : decode cX6_explain 45 = .ok (.invokevirtual 188, 3) := by decide +kernel
theorem dX6_explain_48 : decode cX6_explain 48 = .ok (.iload_n 2, 1) := by decide +kernel
theorem dX6_explain_49 : decode cX6_explain 49 = .ok (.ifCond .ne 11, 3) := by decide +kernel
theorem dX6_explain_52 : decode cX6_explain 52 = .ok (.aload_n 0, 1) := by decide +kernel
theorem dX6_explain_53 : decode cX6_explain 53 = .ok (.getfield 33, 3) := by decide +kernel
theorem dX6_explain_56 : decode cX6_explain 56 = .ok (.getfield 191, 3) := by decide +kernel
theorem dX6_explain_59 : decode cX6_explain 59 = .ok (.ireturn, 1) := by decide +kernel
theorem dX6_explain_60 : decode cX6_explain 60 = .ok (.iload_n 2, 1) := by decide +kernel
theorem dX6_explain_61 : decode cX6_explain 61 = .ok (.iconst 1, 1) := by decide +kernel
theorem dX6_explain_62 : decode cX6_explain 62 = .ok (.if_icmp .ne 13, 3) := by decide +kernel
theorem dX6_explain_65 : decode cX6_explain 65 = .ok (.aload_n 0, 1) := by decide +kernel
theorem dX6_explain_66 : decode cX6_explain 66 = .ok (.getfield 33, 3) := by decide +kernel
theorem dX6_explain_69 : decode cX6_explain 69 = .ok (.getfield 194, 3) := by decide +kernel
theorem dX6_explain_72 : decode cX6_explain 72 = .ok (.goto 10, 3) := by decide +kernel
theorem dX6_explain_75 : decode cX6_explain 75 = .ok (.aload_n 0, 1) := by decide +kernel
theorem dX6_explain_76 : decode cX6_explain 76 = .ok (.getfield 33, 3) := by decide +kernel
theorem dX6_explain_79 : decode cX6_explain 79 = .ok (.getfield 197, 3) := by decide +kernel
theorem dX6_explain_82 : decode cX6_explain 82 = .ok (.ireturn, 1) := by decide +kernel
set_option maxRecDepth 20000 in
theorem ggX6_slats_X6_isWithin : GoodIn wsX6_slats wsX6_isWithin := goodIn_r _ [7] (by decide +kernel) (by decide +kernel)
set_option maxRecDepth 20000 in
theorem gX6_slats_X6_isWithin : GoodIn wsX6_slats (va_wsS RX6 55 yX6_isWithin wsX6_isWithin) := goodIn_app (goodIn_of _ (by decide +kernel)) ggX6_slats_X6_isWithin
set_option maxRecDepth 20000 in
theorem ggX6_slats_X2_putSlats : GoodIn wsX6_slats wsX2_putSlats := goodIn_r _ [12, 13, 14, 21, 22, 23, 24, 25, 26, 27] (by decide +kernel) (by decide +kernel)
set_option maxRecDepth 20000 in
theorem gX6_slats_X2_putSlats : GoodIn wsX6_slats (wsV RX6 202 RX2 yX2_putSlats wsX2_putSlats) := goodIn_app (goodIn_of _ (by decide +kernel)) ggX6_slats_X2_putSlats
theorem dX6_slats_0 : decode cX6_slats 0 = .ok (.iload_n 1, 1) := by decide +kernel
theorem dX6_slats_1 : decode cX6_slats 1 = .ok (.iconst 0, 1) := by decide +kernel
theorem dX6_slats_2 : decode cX6_slats 2 = .ok (.bipush 9, 2) := by decide +kernel
theorem dX6_slats_4 : decode cX6_slats 4 = .ok (.invokestatic 55, 3) := by decide +kernel
theorem dX6_slats_7 : decode cX6_slats 7 = .ok (.ifCond .eq 14, 3) := by decide +kernel
theorem dX6_slats_10 : decode cX6_slats 10 = .ok (.iload_n 2, 1) := by decide +kernel
theorem dX6_slats_11 : decode cX6_slats 11 = .ok (.iconst 0, 1) := by decide +kernel
theorem dX6_slats_12 : decode cX6_slats 12 = .ok (.sipush 200, 3) := by decide +kernel
theorem dX6_slats_15 : decode cX6_slats 15 = .ok (.invokestatic 55, 3) := by decide +kernel
theorem dX6_slats_18 : decode cX6_slats 18 = .ok (.ifCond .ne 13, 3) := by decide +kernel
theorem dX6_slats_21 : decode cX6_slats 21 = .ok (.new 59, 3) := by decide +kernel
theorem dX6_slats_24 : decode cX6_slats 24 = .ok (.dup, 1) := by decide +kernel
theorem dX6_slats_25 : decode cX6_slats 25 = .ok (.ldc 200, 2) := by decide +kernel
theorem dX6_slats_27 : decode cX6_slats 27 = .ok (.invokespecial 63, 3) := by decide +kernel
theorem dX6_slats_30 : decode cX6_slats 30 = .ok (.athrow, 1) := by decide +kernel
theorem dX6_slats_31 : decode cX6_slats 31 = .ok (.aload_n 0, 1) := by decide +kernel
theorem dX6_slats_32 : decode cX6_slats 32 = .ok (.getfield 40, 3) := by decide +kernel
theorem dX6_slats_35 : decode cX6_slats 35 = .ok (.iload_n 1, 1) := by decide +kernel
theorem dX6_slats_36 : decode cX6_slats 36 = .ok (.iload_n 2, 1) := by decide +kernel
theorem dX6_slats_37 : decode cX6_slats 37 = .ok (.invokevirtual 202, 3) := by decide +kernel
theorem dX6_slats_40 : decode cX6_slats 40 = .ok (.ireturn, 1) := by decide +kernel
set_option maxRecDepth 20000 in
theorem ggX6_grade_X6_isWithin : GoodIn wsX6_grade wsX6_isWithin := goodIn_r _ [8] (by decide +kernel) (by decide +kernel)
set_option maxRecDepth 20000 in
theorem gX6_grade_X6_isWithin : GoodIn wsX6_grade (va_wsS RX6 55 yX6_isWithin wsX6_isWithin) := goodIn_app (goodIn_of _ (by decide +kernel)) ggX6_grade_X6_isWithin
set_option maxRecDepth 20000 in
theorem ggX6_grade_X2_add : GoodIn wsX6_grade wsX2_add := goodIn_r _ [13, 14, 15, 16, 17, 24, 25, 26, 27, 28, 29, 30] (by decide +kernel) (by decide +kernel)
set_option maxRecDepth 20000 in
theorem gX6_grade_X2_add : GoodIn wsX6_grade (wsV RX6 206 RX2 yX2_add wsX2_add) := goodIn_app (goodIn_of _ (by decide +kernel)) ggX6_grade_X2_add
theorem dX6_grade_0 : decode cX6_grade 0 = .ok (.iload_n 1, 1) := by decide +kernel
theorem dX6_grade_1 : decode cX6_grade 1 = .ok (.iconst 0, 1) := by decide +kernel
theorem dX6_grade_2 : decode cX6_grade 2 = .ok (.bipush 9, 2) := by decide +kernel
theorem dX6_grade_4 : decode cX6_grade 4 = .ok (.invokestatic 55, 3) := by decide +kernel
theorem dX6_grade_7 : decode cX6_grade 7 = .ok (.ifCond .eq 25, 3) := by decide +kernel
theorem dX6_grade_10 : decode cX6_grade 10 = .ok (.iload_n 2, 1) := by decide +kernel
theorem dX6_grade_11 : decode cX6_grade 11 = .ok (.iconst 1, 1) := by decide +kernel
theorem dX6_grade_12 : decode cX6_grade 12 = .ok (.sipush 1000, 3) := by decide +kernel
theorem dX6_grade_15 : decode cX6_grade 15 = .ok (.invokestatic 55, 3) := by decide +kernel
theorem dX6_grade_18 : decode cX6_grade 18 = .ok (.ifCond .eq 14, 3) := by decide +kernel
theorem dX6_grade_21 : decode cX6_grade 21 = .ok (.iload_n 3, 1) := by decide +kernel
theorem dX6_grade_22 : decode cX6_grade 22 = .ok (.iconst 0, 1) := by decide +kernel
theorem dX6_grade_23 : decode cX6_grade 23 = .ok (.sipush 500, 3) := by decide +kernel
theorem dX6_grade_26 : decode cX6_grade 26 = .ok (.invokestatic 55, 3) := by decide +kernel
theorem dX6_grade_29 : decode cX6_grade 29 = .ok (.ifCond .ne 13, 3) := by decide +kernel
theorem dX6_grade_32 : decode cX6_grade 32 = .ok (.new 59, 3) := by decide +kernel
theorem dX6_grade_35 : decode cX6_grade 35 = .ok (.dup, 1) := by decide +kernel
theorem dX6_grade_36 : decode cX6_grade 36 = .ok (.ldc 200, 2) := by decide +kernel
theorem dX6_grade_38 : decode cX6_grade 38 = .ok (.invokespecial 63, 3) := by decide +kernel
theorem dX6_grade_41 : decode cX6_grade 41 = .ok (.athrow, 1) := by decide +kernel
theorem dX6_grade_42 : decode cX6_grade 42 = .ok (.aload_n 0, 1) := by decide +kernel
theorem dX6_grade_43 : decode cX6_grade 43 = .ok (.getfield 40, 3) := by decide +kernel
theorem dX6_grade_46 : decode cX6_grade 46 = .ok (.getfield 205, 3) := by decide +kernel
theorem dX6_grade_49 : decode cX6_grade 49 = .ok (.bipush 6, 2) := by decide +kernel
theorem dX6_grade_51 : decode cX6_grade 51 = .ok (.if_icmp .lt 7, 3) := by decide +kernel
theorem dX6_grade_54 : decode cX6_grade 54 = .ok (.iconst (-1), 1) := by decide +kernel
theorem dX6_grade_55 : decode cX6_grade 55 = .ok (.goto 13, 3) := by decide +kernel
theorem dX6_grade_58 : decode cX6_grade 58 = .ok (.aload_n 0, 1) := by decide +kernel
theorem dX6_grade_59 : decode cX6_grade 59 = .ok (.getfield 40, 3) := by decide +kernel
theorem dX6_grade_62 : decode cX6_grade 62 = .ok (.iload_n 1, 1) := by decide +kernel
theorem dX6_grade_63 : decode cX6_grade 63 = .ok (.iload_n 2, 1) := by decide +kernel
theorem dX6_grade_64 : decode cX6_grade 64 = .ok (.iload_n 3, 1) := by decide +kernel
theorem dX6_grade_65 : decode cX6_grade 65 = .ok (.invokevirtual 206, 3) := by decide +kernel
theorem dX6_grade_68 : decode cX6_grade 68 = .ok (.ireturn, 1) := by decide +kernel
theorem dX6_ungrade_0 : decode cX6_ungrade 0 = .ok (.aload_n 0, 1) := by decide +kernel
theorem dX6_ungrade_1 : decode cX6_ungrade 1 = .ok (.getfield 40, 3) := by decide +kernel
theorem dX6_ungrade_4 : decode cX6_ungrade 4 = .ok (.getfield 205, 3) := by decide +kernel
theorem dX6_ungrade_7 : decode cX6_ungrade 7 = .ok (.istore_n 1, 1) := by decide +kernel
theorem dX6_ungrade_8 : decode cX6_ungrade 8 = .ok (.aload_n 0, 1) := by decide +kernel
theorem dX6_ungrade_9 : decode cX6_ungrade 9 = .ok (.getfield 40, 3) := by decide +kernel
theorem dX6_ungrade_12 : decode cX6_ungrade 12 = .ok (.iconst 0, 1) := by decide +kernel
theorem dX6_ungrade_13 : decode cX6_ungrade 13 = .ok (.putfield 205, 3) := by decide +kernel
theorem dX6_ungrade_16 : decode cX6_ungrade 16 = .ok (.iload_n 1, 1) := by decide +kernel
theorem dX6_ungrade_17 : decode cX6_ungrade 17 = .ok (.ireturn, 1) := by decide +kernel
set_option maxRecDepth 20000 in
theorem ggX6_most_X2_greatestWorth : GoodIn wsX6_most wsX2_greatestWorth := goodIn_r _ [6, 7, 8, 9, 10, 11, 12, 13, 5, 14, 15, 16, 17, 18, 19, 20, 27, 28, 29, 30, 31, 32, 33] (by decide +kernel) (by decide +kernel)
set_option maxRecDepth 20000 in
theorem gX6_most_X2_greatestWorth : GoodIn wsX6_most (wsV RX6 209 RX2 yX2_greatestWorth wsX2_greatestWorth) := goodIn_app (goodIn_of _ (by decide +kernel)) ggX6_most_X2_greatestWorth
theorem dX6_most_0 : decode cX6_most 0 = .ok (.aload_n 0, 1) := by decide +kernel
theorem dX6_most_1 : decode cX6_most 1 = .ok (.getfield 40, 3) := by decide +kernel
theorem dX6_most_4 : decode cX6_most 4 = .ok (.invokevirtual 209, 3) := by decide +kernel
theorem dX6_most_7 : decode cX6_most 7 = .ok (.ireturn, 1) := by decide +kernel
set_option maxRecDepth 20000 in
theorem ggX6_change_X6_isNumberOf : GoodIn wsX6_change wsX6_isNumberOf := goodIn_r _ [10] (by decide +kernel) (by decide +kernel)
set_option maxRecDepth 20000 in
theorem gX6_change_X6_isNumberOf : GoodIn wsX6_change (va_wsS RX6 79 yX6_isNumberOf wsX6_isNumberOf) := goodIn_app (goodIn_of _ (by decide +kernel)) ggX6_change_X6_isNumberOf
set_option maxRecDepth 20000 in
theorem ggX6_change_X6_isWithin : GoodIn wsX6_change wsX6_isWithin := goodIn_r _ [13] (by decide +kernel) (by decide +kernel)
set_option maxRecDepth 20000 in
theorem gX6_change_X6_isWithin : GoodIn wsX6_change (va_wsS RX6 55 yX6_isWithin wsX6_isWithin) := goodIn_app (goodIn_of _ (by decide +kernel)) ggX6_change_X6_isWithin
theorem dX6_change_0 : decode cX6_change 0 = .ok (.iload_n 1, 1) := by decide +kernel
theorem dX6_change_1 : decode cX6_change 1 = .ok (.bipush 6, 2) := by decide +kernel
theorem dX6_change_3 : decode cX6_change 3 = .ok (.invokestatic 79, 3) := by decide +kernel
theorem dX6_change_6 : decode cX6_change 6 = .ok (.ifCond .eq 12, 3) := by decide +kernel
theorem dX6_change_9 : decode cX6_change 9 = .ok (.iload_n 2, 1) := by decide +kernel
theorem dX6_change_10 : decode cX6_change 10 = .ok (.bipush 6, 2) := by decide +kernel
theorem dX6_change_12 : decode cX6_change 12 = .ok (.invokestatic 79, 3) := by decide +kernel
theorem dX6_change_15 : decode cX6_change 15 = .ok (.ifCond .ne 13, 3) := by decide +kernel
theorem dX6_change_18 : decode cX6_change 18 = .ok (.new 82, 3) := by decide +kernel
theorem dX6_change_21 : decode cX6_change 21 = .ok (.dup, 1) := by decide +kernel
theorem dX6_change_22 : decode cX6_change 22 = .ok (.ldc 213, 2) := by decide +kernel
theorem dX6_change_24 : decode cX6_change 24 = .ok (.invokespecial 86, 3) := by decide +kernel
theorem dX6_change_27 : decode cX6_change 27 = .ok (.athrow, 1) := by decide +kernel
theorem dX6_change_28 : decode cX6_change 28 = .ok (.iload_n 3, 1) := by decide +kernel
theorem dX6_change_29 : decode cX6_change 29 = .ok (.iconst 0, 1) := by decide +kernel
theorem dX6_change_30 : decode cX6_change 30 = .ok (.sipush 1000, 3) := by decide +kernel
theorem dX6_change_33 : decode cX6_change 33 = .ok (.invokestatic 55, 3) := by decide +kernel
theorem dX6_change_36 : decode cX6_change 36 = .ok (.ifCond .eq 8, 3) := by decide +kernel
theorem dX6_change_39 : decode cX6_change 39 = .ok (.iload_n 1, 1) := by decide +kernel
theorem dX6_change_40 : decode cX6_change 40 = .ok (.iload_n 2, 1) := by decide +kernel
theorem dX6_change_41 : decode cX6_change 41 = .ok (.if_icmp .ne 13, 3) := by decide +kernel
theorem dX6_change_44 : decode cX6_change 44 = .ok (.new 59, 3) := by decide +kernel
theorem dX6_change_47 : decode cX6_change 47 = .ok (.dup, 1) := by decide +kernel
theorem dX6_change_48 : decode cX6_change 48 = .ok (.ldc 215, 2) := by decide +kernel
theorem dX6_change_50 : decode cX6_change 50 = .ok (.invokespecial 63, 3) := by decide +kernel
theorem dX6_change_53 : decode cX6_change 53 = .ok (.athrow, 1) := by decide +kernel
theorem dX6_change_54 : decode cX6_change 54 = .ok (.aload_n 0, 1) := by decide +kernel
theorem dX6_change_55 : decode cX6_change 55 = .ok (.getfield 47, 3) := by decide +kernel
theorem dX6_change_58 : decode cX6_change 58 = .ok (.getfield 217, 3) := by decide +kernel
theorem dX6_change_61 : decode cX6_change 61 = .ok (.iload_n 1, 1) := by decide +kernel
theorem dX6_change_62 : decode cX6_change 62 = .ok (.bipush 6, 2) := by decide +kernel
theorem dX6_change_64 : decode cX6_change 64 = .ok (.imul, 1) := by decide +kernel
theorem dX6_change_65 : decode cX6_change 65 = .ok (.iload_n 2, 1) := by decide +kernel
theorem dX6_change_66 : decode cX6_change 66 = .ok (.iadd, 1) := by decide +kernel
theorem dX6_change_67 : decode cX6_change 67 = .ok (.iload_n 3, 1) := by decide +kernel
theorem dX6_change_68 : decode cX6_change 68 = .ok (.iastore, 1) := by decide +kernel
theorem dX6_change_69 : decode cX6_change 69 = .ok (.return_, 1) := by decide +kernel
set_option maxRecDepth 20000 in
theorem ggX6_job_X6_isNumberOf : GoodIn wsX6_job wsX6_isNumberOf := goodIn_r _ [8] (by decide +kernel) (by decide +kernel)
set_option maxRecDepth 20000 in
theorem gX6_job_X6_isNumberOf : GoodIn wsX6_job (va_wsS RX6 79 yX6_isNumberOf wsX6_isNumberOf) := goodIn_app (goodIn_of _ (by decide +kernel)) ggX6_job_X6_isNumberOf
set_option maxRecDepth 20000 in
theorem ggX6_job_X4_add : GoodIn wsX6_job wsX4_add := goodIn_r _ [13, 14, 15, 22, 23, 24, 25, 26, 27, 28] (by decide +kernel) (by decide +kernel)
set_option maxRecDepth 20000 in
theorem gX6_job_X4_add : GoodIn wsX6_job (wsV RX6 223 RX4 yX4_add wsX4_add) := goodIn_app (goodIn_of _ (by decide +kernel)) ggX6_job_X4_add
theorem dX6_job_0 : decode cX6_job 0 = .ok (.iload_n 1, 1) := by decide +kernel
theorem dX6_job_1 : decode cX6_job 1 = .ok (.bipush 6, 2) := by decide +kernel
theorem dX6_job_3 : decode cX6_job 3 = .ok (.invokestatic 79, 3) := by decide +kernel
theorem dX6_job_6 : decode cX6_job 6 = .ok (.ifCond .ne 13, 3) := by decide +kernel
theorem dX6_job_9 : decode cX6_job 9 = .ok (.new 82, 3) := by decide +kernel
theorem dX6_job_12 : decode cX6_job 12 = .ok (.dup, 1) := by decide +kernel
theorem dX6_job_13 : decode cX6_job 13 = .ok (.ldc 213, 2) := by decide +kernel
theorem dX6_job_15 : decode cX6_job 15 = .ok (.invokespecial 86, 3) := by decide +kernel
theorem dX6_job_18 : decode cX6_job 18 = .ok (.athrow, 1) := by decide +kernel
theorem dX6_job_19 : decode cX6_job 19 = .ok (.aload_n 0, 1) := by decide +kernel
theorem dX6_job_20 : decode cX6_job 20 = .ok (.getfield 47, 3) := by decide +kernel
theorem dX6_job_23 : decode cX6_job 23 = .ok (.getfield 220, 3) := by decide +kernel
theorem dX6_job_26 : decode cX6_job 26 = .ok (.bipush 10, 2) := by decide +kernel
theorem dX6_job_28 : decode cX6_job 28 = .ok (.if_icmp .lt 7, 3) := by decide +kernel
theorem dX6_job_31 : decode cX6_job 31 = .ok (.iconst (-1), 1) := by decide +kernel
theorem dX6_job_32 : decode cX6_job 32 = .ok (.goto 11, 3) := by decide +kernel
theorem dX6_job_35 : decode cX6_job 35 = .ok (.aload_n 0, 1) := by decide +kernel
theorem dX6_job_36 : decode cX6_job 36 = .ok (.getfield 47, 3) := by decide +kernel
theorem dX6_job_39 : decode cX6_job 39 = .ok (.iload_n 1, 1) := by decide +kernel
theorem dX6_job_40 : decode cX6_job 40 = .ok (.invokevirtual 223, 3) := by decide +kernel
theorem dX6_job_43 : decode cX6_job 43 = .ok (.ireturn, 1) := by decide +kernel
set_option maxRecDepth 20000 in
theorem ggX6_on_X6_isNumberOf : GoodIn wsX6_on wsX6_isNumberOf := goodIn_r _ [8] (by decide +kernel) (by decide +kernel)
set_option maxRecDepth 20000 in
theorem gX6_on_X6_isNumberOf : GoodIn wsX6_on (va_wsS RX6 79 yX6_isNumberOf wsX6_isNumberOf) := goodIn_app (goodIn_of _ (by decide +kernel)) ggX6_on_X6_isNumberOf
theorem dX6_on_0 : decode cX6_on 0 = .ok (.iload_n 1, 1) := by decide +kernel
theorem dX6_on_1 : decode cX6_on 1 = .ok (.iconst (-1), 1) := by decide +kernel
theorem dX6_on_2 : decode cX6_on 2 = .ok (.if_icmp .eq 22, 3) := by decide +kernel
theorem dX6_on_5 : decode cX6_on 5 = .ok (.iload_n 1, 1) := by decide +kernel
theorem dX6_on_6 : decode cX6_on 6 = .ok (.bipush 6, 2) := by decide +kernel
theorem dX6_on_8 : decode cX6_on 8 = .ok (.invokestatic 79, 3) := by decide +kernel
theorem dX6_on_11 : decode cX6_on 11 = .ok (.ifCond .ne 13, 3) := by decide +kernel
theorem dX6_on_14 : decode cX6_on 14 = .ok (.new 82, 3) := by decide +kernel
theorem dX6_on_17 : decode cX6_on 17 = .ok (.dup, 1) := by decide +kernel
theorem dX6_on_18 : decode cX6_on 18 = .ok (.ldc 213, 2) := by decide +kernel
theorem dX6_on_20 : decode cX6_on 20 = .ok (.invokespecial 86, 3) := by decide +kernel
theorem dX6_on_23 : decode cX6_on 23 = .ok (.athrow, 1) := by decide +kernel
theorem dX6_on_24 : decode cX6_on 24 = .ok (.aload_n 0, 1) := by decide +kernel
theorem dX6_on_25 : decode cX6_on 25 = .ok (.getfield 47, 3) := by decide +kernel
theorem dX6_on_28 : decode cX6_on 28 = .ok (.iload_n 1, 1) := by decide +kernel
theorem dX6_on_29 : decode cX6_on 29 = .ok (.putfield 226, 3) := by decide +kernel
theorem dX6_on_32 : decode cX6_on 32 = .ok (.return_, 1) := by decide +kernel
set_option maxRecDepth 20000 in
theorem ggX6_changes_X4_runJobs : GoodIn wsX6_changes wsX4_runJobs := goodIn_r _ [6, 7, 8, 9, 10, 5, 11, 12, 13, 14, 15, 16, 17, 18, 19, 20, 21, 22, 23, 24, 25, 26, 27, 28, 29, 30, 31, 32, 33, 34, 35, 36, 37, 38, 39, 40, 41, 48, 49, 50, 51, 52, 53, 54] (by decide +kernel) (by decide +kernel)
set_option maxRecDepth 20000 in
theorem gX6_changes_X4_runJobs : GoodIn wsX6_changes (wsV RX6 229 RX4 yX4_runJobs wsX4_runJobs) := goodIn_app (goodIn_of _ (by decide +kernel)) ggX6_changes_X4_runJobs
theorem dX6_changes_0 : decode cX6_changes 0 = .ok (.aload_n 0, 1) := by decide +kernel
theorem dX6_changes_1 : decode cX6_changes 1 = .ok (.getfield 47, 3) := by decide +kernel
theorem dX6_changes_4 : decode cX6_changes 4 = .ok (.invokevirtual 229, 3) := by decide +kernel
theorem dX6_changes_7 : decode cX6_changes 7 = .ok (.ireturn, 1) := by decide +kernel
theorem dX6_count_0 : decode cX6_count 0 = .ok (.iload_n 1, 1) := by decide +kernel
theorem dX6_count_1 : decode cX6_count 1 = .ok (.tableswitch 135 0 9 #[55, 63, 71, 79, 87, 95, 103, 111, 119, 127], 55) := by decide +kernel
theorem dX6_count_56 : decode cX6_count 56 = .ok (.aload_n 0, 1) := by decide +kernel
theorem dX6_count_57 : decode cX6_count 57 = .ok (.getfield 26, 3) := by decide +kernel
theorem dX6_count_60 : decode cX6_count 60 = .ok (.getfield 152, 3) := by decide +kernel
theorem dX6_count_63 : decode cX6_count 63 = .ok (.ireturn, 1) := by decide +kernel
theorem dX6_count_64 : decode cX6_count 64 = .ok (.aload_n 0, 1) := by decide +kernel
theorem dX6_count_65 : decode cX6_count 65 = .ok (.getfield 10, 3) := by decide +kernel
theorem dX6_count_68 : decode cX6_count 68 = .ok (.getfield 66, 3) := by decide +kernel
theorem dX6_count_71 : decode cX6_count 71 = .ok (.ireturn, 1) := by decide +kernel
theorem dX6_count_72 : decode cX6_count 72 = .ok (.aload_n 0, 1) := by decide +kernel
theorem dX6_count_73 : decode cX6_count 73 = .ok (.getfield 19, 3) := by decide +kernel
theorem dX6_count_76 : decode cX6_count 76 = .ok (.getfield 105, 3) := by decide +kernel
theorem dX6_count_79 : decode cX6_count 79 = .ok (.ireturn, 1) := by decide +kernel
theorem dX6_count_80 : decode cX6_count 80 = .ok (.aload_n 0, 1) := by decide +kernel
theorem dX6_count_81 : decode cX6_count 81 = .ok (.getfield 19, 3) := by decide +kernel
theorem dX6_count_84 : decode cX6_count 84 = .ok (.getfield 127, 3) := by decide +kernel
theorem dX6_count_87 : decode cX6_count 87 = .ok (.ireturn, 1) := by decide +kernel
theorem dX6_count_88 : decode cX6_count 88 = .ok (.aload_n 0, 1) := by decide +kernel
theorem dX6_count_89 : decode cX6_count 89 = .ok (.getfield 19, 3) := by decide +kernel
theorem dX6_count_92 : decode cX6_count 92 = .ok (.getfield 232, 3) := by decide +kernel
theorem dX6_count_95 : decode cX6_count 95 = .ok (.ireturn, 1) := by decide +kernel
theorem dX6_count_96 : decode cX6_count 96 = .ok (.aload_n 0, 1) := by decide +kernel
theorem dX6_count_97 : decode cX6_count 97 = .ok (.getfield 26, 3) := by decide +kernel
theorem dX6_count_100 : decode cX6_count 100 = .ok (.getfield 170, 3) := by decide +kernel
theorem dX6_count_103 : decode cX6_count 103 = .ok (.ireturn, 1) := by decide +kernel
theorem dX6_count_104 : decode cX6_count 104 = .ok (.aload_n 0, 1) := by decide +kernel
theorem dX6_count_105 : decode cX6_count 105 = .ok (.getfield 40, 3) := by decide +kernel
theorem dX6_count_108 : decode cX6_count 108 = .ok (.getfield 235, 3) := by decide +kernel
theorem dX6_count_111 : decode cX6_count 111 = .ok (.ireturn, 1) := by decide +kernel
theorem dX6_count_112 : decode cX6_count 112 = .ok (.aload_n 0, 1) := by decide +kernel
theorem dX6_count_113 : decode cX6_count 113 = .ok (.getfield 40, 3) := by decide +kernel
theorem dX6_count_116 : decode cX6_count 116 = .ok (.getfield 205, 3) := by decide +kernel
theorem dX6_count_119 : decode cX6_count 119 = .ok (.ireturn, 1) := by decide +kernel
theorem dX6_count_120 : decode cX6_count 120 = .ok (.aload_n 0, 1) := by decide +kernel
theorem dX6_count_121 : decode cX6_count 121 = .ok (.getfield 47, 3) := by decide +kernel
theorem dX6_count_124 : decode cX6_count 124 = .ok (.getfield 220, 3) := by decide +kernel
theorem dX6_count_127 : decode cX6_count 127 = .ok (.ireturn, 1) := by decide +kernel
theorem dX6_count_128 : decode cX6_count 128 = .ok (.aload_n 0, 1) := by decide +kernel
theorem dX6_count_129 : decode cX6_count 129 = .ok (.getfield 47, 3) := by decide +kernel
theorem dX6_count_132 : decode cX6_count 132 = .ok (.getfield 226, 3) := by decide +kernel
theorem dX6_count_135 : decode cX6_count 135 = .ok (.ireturn, 1) := by decide +kernel
theorem dX6_count_136 : decode cX6_count 136 = .ok (.iconst (-1), 1) := by decide +kernel
theorem dX6_count_137 : decode cX6_count 137 = .ok (.ireturn, 1) := by decide +kernel
theorem dX6_isWithin_0 : decode cX6_isWithin 0 = .ok (.iload_n 0, 1) := by decide +kernel
theorem dX6_isWithin_1 : decode cX6_isWithin 1 = .ok (.iload_n 1, 1) := by decide +kernel
theorem dX6_isWithin_2 : decode cX6_isWithin 2 = .ok (.if_icmp .lt 12, 3) := by decide +kernel
theorem dX6_isWithin_5 : decode cX6_isWithin 5 = .ok (.iload_n 0, 1) := by decide +kernel
theorem dX6_isWithin_6 : decode cX6_isWithin 6 = .ok (.iload_n 2, 1) := by decide +kernel
theorem dX6_isWithin_7 : decode cX6_isWithin 7 = .ok (.if_icmp .gt 7, 3) := by decide +kernel
theorem dX6_isWithin_10 : decode cX6_isWithin 10 = .ok (.iconst 1, 1) := by decide +kernel
theorem dX6_isWithin_11 : decode cX6_isWithin 11 = .ok (.goto 4, 3) := by decide +kernel
theorem dX6_isWithin_14 : decode cX6_isWithin 14 = .ok (.iconst 0, 1) := by decide +kernel
theorem dX6_isWithin_15 : decode cX6_isWithin 15 = .ok (.ireturn, 1) := by decide +kernel
theorem dX6_isNumberOf_0 : decode cX6_isNumberOf 0 = .ok (.iload_n 0, 1) := by decide +kernel
theorem dX6_isNumberOf_1 : decode cX6_isNumberOf 1 = .ok (.ifCond .lt 12, 3) := by decide +kernel
theorem dX6_isNumberOf_4 : decode cX6_isNumberOf 4 = .ok (.iload_n 0, 1) := by decide +kernel
theorem dX6_isNumberOf_5 : decode cX6_isNumberOf 5 = .ok (.iload_n 1, 1) := by decide +kernel
theorem dX6_isNumberOf_6 : decode cX6_isNumberOf 6 = .ok (.if_icmp .ge 7, 3) := by decide +kernel
theorem dX6_isNumberOf_9 : decode cX6_isNumberOf 9 = .ok (.iconst 1, 1) := by decide +kernel
theorem dX6_isNumberOf_10 : decode cX6_isNumberOf 10 = .ok (.goto 4, 3) := by decide +kernel
theorem dX6_isNumberOf_13 : decode cX6_isNumberOf 13 = .ok (.iconst 0, 1) := by decide +kernel
theorem dX6_isNumberOf_14 : decode cX6_isNumberOf 14 = .ok (.ireturn, 1) := by decide +kernel
theorem dX6_isSpan_0 : decode cX6_isSpan 0 = .ok (.iconst 0, 1) := by decide +kernel
theorem dX6_isSpan_1 : decode cX6_isSpan 1 = .ok (.iload_n 0, 1) := by decide +kernel
theorem dX6_isSpan_2 : decode cX6_isSpan 2 = .ok (.if_icmp .gt 19, 3) := by decide +kernel
theorem dX6_isSpan_5 : decode cX6_isSpan 5 = .ok (.iload_n 0, 1) := by decide +kernel
theorem dX6_isSpan_6 : decode cX6_isSpan 6 = .ok (.iload_n 1, 1) := by decide +kernel
theorem dX6_isSpan_7 : decode cX6_isSpan 7 = .ok (.if_icmp .gt 14, 3) := by decide +kernel
theorem dX6_isSpan_10 : decode cX6_isSpan 10 = .ok (.iload_n 1, 1) := by decide +kernel
theorem dX6_isSpan_11 : decode cX6_isSpan 11 = .ok (.sipush 1000, 3) := by decide +kernel
theorem dX6_isSpan_14 : decode cX6_isSpan 14 = .ok (.if_icmp .gt 7, 3) := by decide +kernel
theorem dX6_isSpan_17 : decode cX6_isSpan 17 = .ok (.iconst 1, 1) := by decide +kernel
theorem dX6_isSpan_18 : decode cX6_isSpan 18 = .ok (.goto 4, 3) := by decide +kernel
theorem dX6_isSpan_21 : decode cX6_isSpan 21 = .ok (.iconst 0, 1) := by decide +kernel
theorem dX6_isSpan_22 : decode cX6_isSpan 22 = .ok (.ireturn, 1) := by decide +kernel
theorem dJ6_bitCount_0f7a4_0 : decode cJ6_bitCount_0f7a4 0 = .ok (.iload_n 0, 1) := by decide +kernel
theorem dJ6_bitCount_0f7a4_1 : decode cJ6_bitCount_0f7a4 1 = .ok (.iload_n 0, 1) := by decide +kernel
theorem dJ6_bitCount_0f7a4_2 : decode cJ6_bitCount_0f7a4 2 = .ok (.iconst 1, 1) := by decide +kernel
theorem dJ6_bitCount_0f7a4_3 : decode cJ6_bitCount_0f7a4 3 = .ok (.iushr, 1) := by decide +kernel
theorem dJ6_bitCount_0f7a4_4 : decode cJ6_bitCount_0f7a4 4 = .ok (.ldc_w 265, 3) := by decide +kernel
theorem dJ6_bitCount_0f7a4_7 : decode cJ6_bitCount_0f7a4 7 = .ok (.iand, 1) := by decide +kernel
theorem dJ6_bitCount_0f7a4_8 : decode cJ6_bitCount_0f7a4 8 = .ok (.isub, 1) := by decide +kernel
theorem dJ6_bitCount_0f7a4_9 : decode cJ6_bitCount_0f7a4 9 = .ok (.istore_n 0, 1) := by decide +kernel
theorem dJ6_bitCount_0f7a4_10 : decode cJ6_bitCount_0f7a4 10 = .ok (.iload_n 0, 1) := by decide +kernel
theorem dJ6_bitCount_0f7a4_11 : decode cJ6_bitCount_0f7a4 11 = .ok (.ldc_w 266, 3) := by decide +kernel
theorem dJ6_bitCount_0f7a4_14 : decode cJ6_bitCount_0f7a4 14 = .ok (.iand, 1) := by decide +kernel
theorem dJ6_bitCount_0f7a4_15 : decode cJ6_bitCount_0f7a4 15 = .ok (.iload_n 0, 1) := by decide +kernel
theorem dJ6_bitCount_0f7a4_16 : decode cJ6_bitCount_0f7a4 16 = .ok (.iconst 2, 1) := by decide +kernel
theorem dJ6_bitCount_0f7a4_17 : decode cJ6_bitCount_0f7a4 17 = .ok (.iushr, 1) := by decide +kernel
theorem dJ6_bitCount_0f7a4_18 : decode cJ6_bitCount_0f7a4 18 = .ok (.ldc_w 266, 3) := by decide +kernel
theorem dJ6_bitCount_0f7a4_21 : decode cJ6_bitCount_0f7a4 21 = .ok (.iand, 1) := by decide +kernel
theorem dJ6_bitCount_0f7a4_22 : decode cJ6_bitCount_0f7a4 22 = .ok (.iadd, 1) := by decide +kernel
theorem dJ6_bitCount_0f7a4_23 : decode cJ6_bitCount_0f7a4 23 = .ok (.istore_n 0, 1) := by decide +kernel
theorem dJ6_bitCount_0f7a4_24 : decode cJ6_bitCount_0f7a4 24 = .ok (.iload_n 0, 1) := by decide +kernel
theorem dJ6_bitCount_0f7a4_25 : decode cJ6_bitCount_0f7a4 25 = .ok (.iload_n 0, 1) := by decide +kernel
theorem dJ6_bitCount_0f7a4_26 : decode cJ6_bitCount_0f7a4 26 = .ok (.iconst 4, 1) := by decide +kernel
theorem dJ6_bitCount_0f7a4_27 : decode cJ6_bitCount_0f7a4 27 = .ok (.iushr, 1) := by decide +kernel
theorem dJ6_bitCount_0f7a4_28 : decode cJ6_bitCount_0f7a4 28 = .ok (.iadd, 1) := by decide +kernel
theorem dJ6_bitCount_0f7a4_29 : decode cJ6_bitCount_0f7a4 29 = .ok (.ldc_w 267, 3) := by decide +kernel
theorem dJ6_bitCount_0f7a4_32 : decode cJ6_bitCount_0f7a4 32 = .ok (.iand, 1) := by decide +kernel
theorem dJ6_bitCount_0f7a4_33 : decode cJ6_bitCount_0f7a4 33 = .ok (.istore_n 0, 1) := by decide +kernel
theorem dJ6_bitCount_0f7a4_34 : decode cJ6_bitCount_0f7a4 34 = .ok (.iload_n 0, 1) := by decide +kernel
theorem dJ6_bitCount_0f7a4_35 : decode cJ6_bitCount_0f7a4 35 = .ok (.iload_n 0, 1) := by decide +kernel
theorem dJ6_bitCount_0f7a4_36 : decode cJ6_bitCount_0f7a4 36 = .ok (.bipush 8, 2) := by decide +kernel
theorem dJ6_bitCount_0f7a4_38 : decode cJ6_bitCount_0f7a4 38 = .ok (.iushr, 1) := by decide +kernel
theorem dJ6_bitCount_0f7a4_39 : decode cJ6_bitCount_0f7a4 39 = .ok (.iadd, 1) := by decide +kernel
theorem dJ6_bitCount_0f7a4_40 : decode cJ6_bitCount_0f7a4 40 = .ok (.istore_n 0, 1) := by decide +kernel
theorem dJ6_bitCount_0f7a4_41 : decode cJ6_bitCount_0f7a4 41 = .ok (.iload_n 0, 1) := by decide +kernel
theorem dJ6_bitCount_0f7a4_42 : decode cJ6_bitCount_0f7a4 42 = .ok (.iload_n 0, 1) := by decide +kernel
theorem dJ6_bitCount_0f7a4_43 : decode cJ6_bitCount_0f7a4 43 = .ok (.bipush 16, 2) := by decide +kernel
theorem dJ6_bitCount_0f7a4_45 : decode cJ6_bitCount_0f7a4 45 = .ok (.iushr, 1) := by decide +kernel
theorem dJ6_bitCount_0f7a4_46 : decode cJ6_bitCount_0f7a4 46 = .ok (.iadd, 1) := by decide +kernel
theorem dJ6_bitCount_0f7a4_47 : decode cJ6_bitCount_0f7a4 47 = .ok (.istore_n 0, 1) := by decide +kernel
theorem dJ6_bitCount_0f7a4_48 : decode cJ6_bitCount_0f7a4 48 = .ok (.iload_n 0, 1) := by decide +kernel
theorem dJ6_bitCount_0f7a4_49 : decode cJ6_bitCount_0f7a4 49 = .ok (.bipush 63, 2) := by decide +kernel
theorem dJ6_bitCount_0f7a4_51 : decode cJ6_bitCount_0f7a4 51 = .ok (.iand, 1) := by decide +kernel
theorem dJ6_bitCount_0f7a4_52 : decode cJ6_bitCount_0f7a4 52 = .ok (.ireturn, 1) := by decide +kernel
theorem dJ9_max_7cf53_0 : decode cJ9_max_7cf53 0 = .ok (.iload_n 0, 1) := by decide +kernel
theorem dJ9_max_7cf53_1 : decode cJ9_max_7cf53 1 = .ok (.iload_n 1, 1) := by decide +kernel
theorem dJ9_max_7cf53_2 : decode cJ9_max_7cf53 2 = .ok (.if_icmp .lt 7, 3) := by decide +kernel
theorem dJ9_max_7cf53_5 : decode cJ9_max_7cf53 5 = .ok (.iload_n 0, 1) := by decide +kernel
theorem dJ9_max_7cf53_6 : decode cJ9_max_7cf53 6 = .ok (.goto 4, 3) := by decide +kernel
theorem dJ9_max_7cf53_9 : decode cJ9_max_7cf53 9 = .ok (.iload_n 1, 1) := by decide +kernel
theorem dJ9_max_7cf53_10 : decode cJ9_max_7cf53 10 = .ok (.ireturn, 1) := by decide +kernel
theorem dJ9_min_7cf53_0 : decode cJ9_min_7cf53 0 = .ok (.iload_n 0, 1) := by decide +kernel
theorem dJ9_min_7cf53_1 : decode cJ9_min_7cf53 1 = .ok (.iload_n 1, 1) := by decide +kernel
theorem dJ9_min_7cf53_2 : decode cJ9_min_7cf53 2 = .ok (.if_icmp .gt 7, 3) := by decide +kernel
theorem dJ9_min_7cf53_5 : decode cJ9_min_7cf53 5 = .ok (.iload_n 0, 1) := by decide +kernel
theorem dJ9_min_7cf53_6 : decode cJ9_min_7cf53 6 = .ok (.goto 4, 3) := by decide +kernel
theorem dJ9_min_7cf53_9 : decode cJ9_min_7cf53 9 = .ok (.iload_n 1, 1) := by decide +kernel
theorem dJ9_min_7cf53_10 : decode cJ9_min_7cf53 10 = .ok (.ireturn, 1) := by decide +kernel
end
section
theorem zz_t : True := trivial
end
