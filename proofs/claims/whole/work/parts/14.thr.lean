/-! exceptions: what a method that throws needs of the start -/
abbrev zIAE : String := "java/lang/IllegalArgumentException"
abbrev zIOB : String := "java/lang/IndexOutOfBoundsException"
abbrev zUOE : String := "java/lang/UnsupportedOperationException"
abbrev zNSE : String := "java/util/NoSuchElementException"
def zNames : List String := ["java/lang/RuntimeException", "java/lang/Exception"]
def zStrs : List (Nat × String) := [(61, "an earth's number is none"), (72, "there are 6 earths"), (84, "no such earth"), (91, "parts are not 0 to 1000, or too many"), (93, "not a grade"), (116, "kind or pieces are none"), (118, "there are 12 lots"), (120, "no such lot"), (125, "n is none, or a lot is of another kind"), (165, "no such what"), (168, "no such batch"), (174, "no such trial"), (180, "days are not 0 to 100"), (200, "a number is none"), (213, "no such colour"), (215, "the cost is none, or the colours are one")]
def zBw : List Cond := [.castable zIAE zIAE, .castable zIOB zIOB, .castable zUOE zUOE, .castable zNSE zNSE, .declares (Bundle.initS "java/lang/RuntimeException"), .declares (Bundle.initS "java/lang/Exception"), .declares (Bundle.initS Bundle.tN)]
def zNcs : List (String × String) := [(zUOE, zIAE), (zIAE, zIOB), (zNSE, zIOB)]
def zXe (A : Nat → Prop) (U : State) (H : Heap) : Prop := vx_Zq Bundle.tN "UNASSIGNED_STACK" Bundle.steD A U H ∧ vx_Zq Bundle.tN "SUPPRESSED_SENTINEL" Bundle.listD A U H ∧ (∀ q ∈ zStrs, ∃ sa, vk_R RX6 q.1 q.2 sa U) ∧ (∀ w ∈ zBw, va_Nw w U) ∧ (∀ q ∈ zNcs, va_Nc q.1 q.2 U)
theorem zBw_warm {s U : State} (hW : s.WarmedH U.vm) (h : ∀ w ∈ zBw, va_Nw w s) : ∀ w ∈ zBw, va_Nw w U := by
  intro w hw
  have h1 := h w hw
  simp only [zBw, List.mem_cons, List.not_mem_nil, or_false] at hw
  rcases hw with rfl | rfl | rfl | rfl | rfl | rfl | rfl
  all_goals first | exact va_Nw.warmC hW h1 | exact va_Nw.warmD hW h1
theorem zBw_use {s : State} {args : Array Value} (h : ∀ w ∈ zBw, va_Nw w s) : ∀ w ∈ zBw, w.before args s = true := by
  intro w hw
  have h1 := h w hw
  simp only [zBw, List.mem_cons, List.not_mem_nil, or_false] at hw
  rcases hw with rfl | rfl | rfl | rfl | rfl | rfl | rfl
  all_goals exact va_Nw.use rfl h1
theorem zXe.warm {A : Nat → Prop} {s U : State} {H : Heap} (hW : s.WarmedH U.vm) (h : zXe A s H) : zXe A U H :=
  ⟨h.1.moved hW.alike, h.2.1.moved hW.alike, fun q hq => by obtain ⟨sa, k⟩ := h.2.2.1 q hq; exact ⟨sa, k.warm hW⟩, zBw_warm hW h.2.2.2.1, fun q hq => (h.2.2.2.2 q hq).moved hW.alike⟩
theorem zXe.kept {A : Nat → Prop} {U : State} {H H1 : Heap} (h : zXe A U H) (hq : ∀ a : Nat, a < H.size → ¬ A a → H1[a]? = H[a]?) : zXe A U H1 := ⟨h.1.kept hq, h.2.1.kept hq, h.2.2⟩
theorem zXe.narrow {A B : Nat → Prop} {U : State} {H : Heap} (h : zXe A U H) (hAB : ∀ q, B q → A q) : zXe B U H := ⟨h.1.narrow hAB, h.2.1.narrow hAB, h.2.2⟩
def zPcX (D : va_G) (cI cZ cJ : ClassId) (av : List Value) (w0 : va_W) (sz : Nat) : Array Value → State → Prop := va_Pc av (fun U => U.heap.size = sz ∧ va_P D vwCl w0 U.heap ∧ va_K D vwCl (zTy cI cZ cJ) U ∧ va_D (fun _ => True) w0 ∧ zXe (va_A w0 sz) U U.heap)
theorem zPcX_blind {D : va_G} {cI cZ cJ : ClassId} {av : List Value} {w0 : va_W} {sz : Nat} : FrameBlind (zPcX D cI cZ cJ av w0 sz) := fun a U g mk q => by
  obtain ⟨q0, q1, qP, qK, qD, qX⟩ := q
  exact ⟨q0, q1, qP, va_K.moved (u := U) (U := U.calling g mk a) (Vm.Alike.refl U.vm) qK, qD, zXe.warm (s := U) (U := U.calling g mk a) (State.WarmedH.refl U) qX⟩
def zXC {S : Type} (D : va_G) (cI cZ cJ : ClassId) (w0 : va_W) (sz : Nat) (wf : S → va_W) (QX : String → S → Prop) : String → State → State → Prop := vx_X (fun _ : S => True) (fun E u t => QX E u ∧ zAt D cI cZ cJ w0 sz wf u t) (va_A w0 sz)
def zXI {S : Type} (l : Launch) (y : MethodName) (ws : List Cond) (rm : Room) (D : va_G) (cI cZ cJ : ClassId) (av : List Value) (w0 : va_W) (wf : S → va_W) (Q : Int32 → S → Prop) (QX : String → S → Prop) : Prop := ∀ sz : Nat, vx_Met l y ws rm (zPcX D cI cZ cJ av w0 sz) (va_Qi Q (zAt D cI cZ cJ w0 sz wf) (va_A w0 sz)) (zXC D cI cZ cJ w0 sz wf QX) 1 6 (va_A w0 sz)
def zXV {S : Type} (l : Launch) (y : MethodName) (ws : List Cond) (rm : Room) (D : va_G) (cI cZ cJ : ClassId) (av : List Value) (w0 : va_W) (wf : S → va_W) (Q : S → Prop) (QX : String → S → Prop) : Prop := ∀ sz : Nat, vx_Met l y ws rm (zPcX D cI cZ cJ av w0 sz) (va_Qv Q (zAt D cI cZ cJ w0 sz wf) (va_A w0 sz)) (zXC D cI cZ cJ w0 sz wf QX) 1 6 (va_A w0 sz)
def zAtE (own : String) (ic : Nat) (E : String) : List Cond := if E = "java/util/NoSuchElementException" then zv_at13 own ic else vx_atS own ic E zNames
/-- a throw: what stands at its place -/
def zThr (cc : ByteArray) (own : String) (Ts : List Cond) (E text : String) (ik is ic pc : Nat) : Prop := Bundle.fit E = true ∧ Cond.classLink own ik E ∈ Ts ∧ Cond.initialized E ∈ Ts ∧ (∀ w ∈ (zAtE own ic E).filter goodWord, w ∈ Ts) ∧ (∀ w ∈ (zAtE own ic E).filter (fun w => !goodWord w), w ∈ zBw) ∧ (∀ w ∈ Cond.classLink own ik E :: Cond.initialized E :: zAtE own ic E, vx_ot w = true) ∧ (is, text) ∈ zStrs ∧
  decode cc pc = .ok (.new ik, 3) ∧ decode cc (pc + 3) = .ok (.dup, 1) ∧ decode cc (pc + 4) = .ok (.ldc is, 2) ∧ decode cc (pc + 6) = .ok (.invokespecial ic, 3) ∧ decode cc (pc + 9) = .ok (.athrow, 1)
section ZX
variable {S : Type} {l : Launch} {y : MethodName} {ws ws' : List Cond} {rm : Room} {D : va_G} {cI cZ cJ : ClassId} {av : List Value} {w0 : va_W} {wf : S → va_W} {cc : ByteArray} {maxL : Nat} {QX : String → S → Prop}
theorem z_thr {p : Program} {e : Env} {s : State} {m : MethodId} {args : Array Value} {below : List Frame} {meth : Method} {c : Code} {Qc : Array Value → State → Outcome → State → Prop} (hlt : l.stackTraces = false) (hrm : 6 ≤ rm.frames ∧ 90 ≤ rm.locals ∧ 1 ≤ rm.cells ∧ 6 ≤ rm.slots)
    (C : zCx p s m args c cc maxL RX6 ws D cI cZ cJ (va_A w0 s.heap.size)) (hX : zXe (va_A w0 s.heap.size) s s.heap) (htab : ∀ x ∈ c.exceptionTable.toList, False) (hlocks : meth.locks = false)
    {pc : Nat} {H : Heap} {locs : List Loc} {ls : Array Slot} {rest : List Value} {u : S} {E text : String} {ik is ic : Nat} (Y : zDy D (va_A w0 s.heap.size) s.heap (wf u) H locs) (hq : QX E u) (hz : zThr cc RX6 ws E text ik is ic pc) (hls : ls.size = maxL) (hr : (rest.map fun v => v.category).sum ≤ 8) :
    W p l e rm s m args below meth c H locs 0 0 (vx_MQ below Qc (zXC D cI cZ cJ w0 s.heap.size wf QX) args s 1 6 (va_A w0 s.heap.size)) (F0 m pc ls rest) := by
  obtain ⟨hx, hb, hml, hown, hts, hK, hA⟩ := C
  obtain ⟨z1, z2, z3, z4, z5, z6, z7, d0, d3, d4, d6, d9⟩ := hz
  obtain ⟨sa, hstr⟩ := hX.2.2.1 _ z7
  have hfin : ∀ t : State, s.vm.Alike t.vm → H.size ≤ t.heap.size → (∀ q : Nat, q < H.size → t.heap[q]? = H[q]?) → zXC D cI cZ cJ w0 s.heap.size wf QX E s t := by
    intro t hvm hsz hk
    refine ⟨u, trivial, ⟨hq, Y.1.kept (fun k x hx => hk x.1 ((Y.1 k x hx).lt)), va_K.moved hvm hK, Y.2.1⟩, Nat.le_trans Y.2.2.1 hsz, fun q h1 h2 => ?_⟩
    rw [hk q (Nat.lt_of_lt_of_le h1 Y.2.2.1)]
    exact Y.2.2.2.1 q h1 h2
  by_cases hE : E = "java/util/NoSuchElementException"
  · subst hE
    exact zx_throw13 (mc := 1) (ms := 6) hx hb hlt hown (hts _ z2) (hts _ z3) hstr (vx_hat (fun w hw => hts w (z4 w (by rw [zAtE, if_pos rfl]; exact hw))) (fun w hw => z5 w (by rw [zAtE, if_pos rfl]; exact hw)) (zBw_use hX.2.2.2.1)) (fun w hw => z6 w (by rw [zAtE, if_pos rfl]; exact hw)) hX.1 hX.2.1 Y.2.2 (hls.trans hml.symm) d0 d3 d4 d6 d9 (fun x hx => (htab x hx).elim) (by omega) (by omega) hrm.2.2.1 (by omega) hlocks hfin (fun z hz => Y.2.2.2.2 z hz) (Nat.le_refl _) (Nat.le_refl _)
  · exact vx_throwS (names := zNames) (mc := 1) (ms := 6) hx hb hlt hown z1 (by decide +kernel) (hts _ z2) (hts _ z3) hstr (vx_hat (fun w hw => hts w (z4 w (by rw [zAtE, if_neg hE]; exact hw))) (fun w hw => z5 w (by rw [zAtE, if_neg hE]; exact hw)) (zBw_use hX.2.2.2.1)) (fun w hw => z6 w (by rw [zAtE, if_neg hE]; exact hw)) hX.1 hX.2.1 Y.2.2 (hls.trans hml.symm) d0 d3 d4 d6 d9 (fun x hx => (htab x hx).elim) (by show 2 + 3 < rm.frames; omega) (by show _ + (13 * (2 + 1) + 43) ≤ rm.locals; omega) hrm.2.2.1 (by omega) hlocks hfin (fun z hz => Y.2.2.2.2 z hz) (Nat.le_refl _) (Nat.le_refl _)
theorem z_ofXI {Q1 : Int32 → S → Prop} (hlt : l.stackTraces = false) (hrm : 6 ≤ rm.frames ∧ 90 ≤ rm.locals ∧ 1 ≤ rm.cells ∧ 6 ≤ rm.slots) (hy : plainName y.cls = true) (hown : y.cls = RX6) (hw : ws = Cond.code y cc maxL (some .int) :: ws') (hlen : (lg_sl av).length ≤ maxL)
    (body : ∀ {p : Program} {e : Env} {s : State} {m : MethodId} {args : Array Value} {below : List Frame} {meth : Method} {c : Code} {A : Nat → Prop} {Q : State → Prop} {ls : Array Slot}, zCx p s m args c cc maxL RX6 ws D cI cZ cJ A → zDy D A s.heap w0 s.heap [] → lv_has ls maxL (lv_args 0 av) →
      (∀ {pc : Nat} {H : Heap} {locs : List Loc} {ls : Array Slot} {r : Int32} {u : S}, zDy D A s.heap (wf u) H locs → Q1 r u → decode cc pc = .ok (.ireturn, 1) → W p l e rm s m args below meth c H locs 0 0 Q (F0 m pc ls [.int r])) →
      (∀ {pc : Nat} {H : Heap} {locs : List Loc} {ls : Array Slot} {rest : List Value} {u : S} {E text : String} {ik is ic : Nat}, zDy D A s.heap (wf u) H locs → QX E u → zThr cc RX6 ws E text ik is ic pc → ls.size = maxL → (rest.map fun v => v.category).sum ≤ 8 → W p l e rm s m args below meth c H locs 0 0 Q (F0 m pc ls rest)) →
      W p l e rm s m args below meth c s.heap [] 0 0 Q (F0 m 0 ls [])) : zXI l y ws rm D cI cZ cJ av w0 wf Q1 QX := by
  intro sz
  refine vx_ofW (cc := cc) (maxL := maxL) (ret := (some .int)) hy hw ?_
  intro p e s m args below meth c s₁ B hml htab hv
  obtain ⟨rfl, hsz, hP, hK, hD0, hX⟩ := hv
  subst hsz
  have hts := atoms_spec (ws := ws) B.pre
  have hfc : s.vm.findClass RX6 = some m.cls := by rw [← hown]; exact findClass_of_methodNamed B.named
  have hl := lv_entry av (n := maxL) hlen
  rw [lg_entry_eq]
  have C : zCx p s m av.toArray c cc maxL RX6 ws D cI cZ cJ (va_A w0 s.heap.size) := ⟨B.exec, B.bytes, hml, hfc, hts, hK, fun q h => Or.inr h⟩
  refine body C ⟨hP, hD0.self, va_S.rf⟩ hl (fun {pc} {H} {locs} {ls} {r} {u} Y hq hd => ?_) (fun {pc} {H} {locs} {ls} {rest} {u} {E} {text} {ik} {is} {ic} Y hq hz hls hr => z_thr hlt hrm C hX htab B.notSynchronized Y hq hz hls hr)
  refine W.widen (k := 1) (n := 6) (by decide) (by decide) ?_
  exact vx_ret (W.iret B.exec B.bytes B.returns (fun t ht hW => ⟨⟨r, u, rfl, hq, by rw [ht]; exact Y.1, va_K.moved hW.alike hK, Y.2.1⟩, Y.2.2.F ht⟩) Y.2.2.2.2 hd B.notSynchronized)
theorem z_ofXZ {Q1 : Int32 → S → Prop} (hlt : l.stackTraces = false) (hrm : 6 ≤ rm.frames ∧ 90 ≤ rm.locals ∧ 1 ≤ rm.cells ∧ 6 ≤ rm.slots) (hy : plainName y.cls = true) (hown : y.cls = RX6) (hw : ws = Cond.code y cc maxL (some .boolean) :: ws') (hlen : (lg_sl av).length ≤ maxL)
    (body : ∀ {p : Program} {e : Env} {s : State} {m : MethodId} {args : Array Value} {below : List Frame} {meth : Method} {c : Code} {A : Nat → Prop} {Q : State → Prop} {ls : Array Slot}, zCx p s m args c cc maxL RX6 ws D cI cZ cJ A → zDy D A s.heap w0 s.heap [] → lv_has ls maxL (lv_args 0 av) →
      (∀ {pc : Nat} {H : Heap} {locs : List Loc} {ls : Array Slot} {r : Int32} {u : S}, zDy D A s.heap (wf u) H locs → (r = 0 ∨ r = 1) → Q1 r u → decode cc pc = .ok (.ireturn, 1) → W p l e rm s m args below meth c H locs 0 0 Q (F0 m pc ls [.int r])) →
      (∀ {pc : Nat} {H : Heap} {locs : List Loc} {ls : Array Slot} {rest : List Value} {u : S} {E text : String} {ik is ic : Nat}, zDy D A s.heap (wf u) H locs → QX E u → zThr cc RX6 ws E text ik is ic pc → ls.size = maxL → (rest.map fun v => v.category).sum ≤ 8 → W p l e rm s m args below meth c H locs 0 0 Q (F0 m pc ls rest)) →
      W p l e rm s m args below meth c s.heap [] 0 0 Q (F0 m 0 ls [])) : zXI l y ws rm D cI cZ cJ av w0 wf Q1 QX := by
  intro sz
  refine vx_ofW (cc := cc) (maxL := maxL) (ret := (some .boolean)) hy hw ?_
  intro p e s m args below meth c s₁ B hml htab hv
  obtain ⟨rfl, hsz, hP, hK, hD0, hX⟩ := hv
  subst hsz
  have hts := atoms_spec (ws := ws) B.pre
  have hfc : s.vm.findClass RX6 = some m.cls := by rw [← hown]; exact findClass_of_methodNamed B.named
  have hl := lv_entry av (n := maxL) hlen
  rw [lg_entry_eq]
  have C : zCx p s m av.toArray c cc maxL RX6 ws D cI cZ cJ (va_A w0 s.heap.size) := ⟨B.exec, B.bytes, hml, hfc, hts, hK, fun q h => Or.inr h⟩
  refine body C ⟨hP, hD0.self, va_S.rf⟩ hl (fun {pc} {H} {locs} {ls} {r} {u} Y h01 hq hd => ?_) (fun {pc} {H} {locs} {ls} {rest} {u} {E} {text} {ik} {is} {ic} Y hq hz hls hr => z_thr hlt hrm C hX htab B.notSynchronized Y hq hz hls hr)
  refine W.widen (k := 1) (n := 6) (by decide) (by decide) ?_
  exact vx_ret (W.zret B.exec B.bytes B.returns (z_nar01 h01) (fun t ht hW => ⟨⟨r, u, rfl, hq, by rw [ht]; exact Y.1, va_K.moved hW.alike hK, Y.2.1⟩, Y.2.2.F ht⟩) Y.2.2.2.2 hd B.notSynchronized)
theorem z_ofXV {Q1 : S → Prop} (hlt : l.stackTraces = false) (hrm : 6 ≤ rm.frames ∧ 90 ≤ rm.locals ∧ 1 ≤ rm.cells ∧ 6 ≤ rm.slots) (hy : plainName y.cls = true) (hown : y.cls = RX6) (hw : ws = Cond.code y cc maxL none :: ws') (hlen : (lg_sl av).length ≤ maxL)
    (body : ∀ {p : Program} {e : Env} {s : State} {m : MethodId} {args : Array Value} {below : List Frame} {meth : Method} {c : Code} {A : Nat → Prop} {Q : State → Prop} {ls : Array Slot}, zCx p s m args c cc maxL RX6 ws D cI cZ cJ A → zDy D A s.heap w0 s.heap [] → lv_has ls maxL (lv_args 0 av) →
      (∀ {pc : Nat} {H : Heap} {locs : List Loc} {ls : Array Slot} {u : S}, zDy D A s.heap (wf u) H locs → Q1 u → decode cc pc = .ok (.return_, 1) → W p l e rm s m args below meth c H locs 0 0 Q (F0 m pc ls [])) →
      (∀ {pc : Nat} {H : Heap} {locs : List Loc} {ls : Array Slot} {rest : List Value} {u : S} {E text : String} {ik is ic : Nat}, zDy D A s.heap (wf u) H locs → QX E u → zThr cc RX6 ws E text ik is ic pc → ls.size = maxL → (rest.map fun v => v.category).sum ≤ 8 → W p l e rm s m args below meth c H locs 0 0 Q (F0 m pc ls rest)) →
      W p l e rm s m args below meth c s.heap [] 0 0 Q (F0 m 0 ls [])) : zXV l y ws rm D cI cZ cJ av w0 wf Q1 QX := by
  intro sz
  refine vx_ofW (cc := cc) (maxL := maxL) (ret := none) hy hw ?_
  intro p e s m args below meth c s₁ B hml htab hv
  obtain ⟨rfl, hsz, hP, hK, hD0, hX⟩ := hv
  subst hsz
  have hts := atoms_spec (ws := ws) B.pre
  have hfc : s.vm.findClass RX6 = some m.cls := by rw [← hown]; exact findClass_of_methodNamed B.named
  have hl := lv_entry av (n := maxL) hlen
  rw [lg_entry_eq]
  have C : zCx p s m av.toArray c cc maxL RX6 ws D cI cZ cJ (va_A w0 s.heap.size) := ⟨B.exec, B.bytes, hml, hfc, hts, hK, fun q h => Or.inr h⟩
  refine body C ⟨hP, hD0.self, va_S.rf⟩ hl (fun {pc} {H} {locs} {ls} {u} Y hq hd => ?_) (fun {pc} {H} {locs} {ls} {rest} {u} {E} {text} {ik} {is} {ic} Y hq hz hls hr => z_thr hlt hrm C hX htab B.notSynchronized Y hq hz hls hr)
  refine W.widen (k := 1) (n := 6) (by decide) (by decide) ?_
  exact vx_ret (W.vret B.exec B.bytes B.returns (fun t ht hW => ⟨⟨u, rfl, hq, by rw [ht]; exact Y.1, va_K.moved hW.alike hK, Y.2.1⟩, Y.2.2.F ht⟩) Y.2.2.2.2 hd B.notSynchronized)
end ZX
