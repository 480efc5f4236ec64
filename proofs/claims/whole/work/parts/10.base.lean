/-! the state of an object: its ints by slot, its arrays by slot -/
abbrev zSt : Type := (Nat → Int32) × (Nat → Nat → Int32)
def zI (u : zSt) (k : Nat) (x : Int32) : zSt := (va_up u.1 k x, u.2)
def zA (u : zSt) (k : Nat) (f : Nat → Int32) : zSt := (u.1, va_up u.2 k f)
abbrev zTy (cI cZ cJ : ClassId) : List (ClassId × FieldType) := [(cI, .int), (cZ, .boolean), (cJ, .long)]
def zCx (p : Program) (s : State) (m : MethodId) (args : Array Value) (c : Code) (cc : ByteArray) (nL : Nat) (own : String) (Ts : List Cond) (D : va_G) (cI cZ cJ : ClassId) (A : Nat → Prop) : Prop :=
  p.tables.exec = Jvm.exec ∧ c.code = cc ∧ c.maxLocals = nL ∧ s.vm.findClass own = some m.cls ∧ (∀ w ∈ Ts, w.before args s = true) ∧ va_K D vwCl (zTy cI cZ cJ) s ∧ (∀ q : Nat, s.heap.size ≤ q → A q)
def zDy (D : va_G) (A : Nat → Prop) (H0 : Heap) (ws : va_W) (H : Heap) (locs : List Loc) : Prop := va_P D vwCl ws H ∧ va_D A ws ∧ va_S A H0 H locs
/-- a world, what a callee needs of it, what comes back, and the world behind -/
def zFr {S : Type} (ws wc : va_W) (wc' ws' : S → va_W) : Prop :=
  (∀ (D : va_G) (H : Heap), va_P D vwCl ws H → va_P D vwCl wc H) ∧ (∀ A : Nat → Prop, va_D A ws → va_D A wc) ∧
  (∀ (A0 : Nat → Prop) (H0 H : Heap) (locs : List Loc), va_D A0 ws → va_S A0 H0 H locs → (∀ q, H0.size ≤ q → A0 q) → ∀ q, va_A wc H.size q → A0 q) ∧
  ∀ (D : va_G) (A0 : Nat → Prop) (H H1 : Heap) (u : S), va_P D vwCl ws H → va_D A0 ws → (∀ q : Nat, q < H.size → ¬ va_A wc H.size q → H1[q]? = H[q]?) → (∀ q, va_A wc H.size q → A0 q) → va_P D vwCl (wc' u) H1 → va_D (va_A wc H.size) (wc' u) → va_P D vwCl (ws' u) H1 ∧ va_D A0 (ws' u)
theorem zFr.self {S : Type} (ws : va_W) (wf : S → va_W) : zFr ws ws wf wf := by
  refine ⟨fun _ _ h => h, fun _ h => h, ?_, ?_⟩
  · intro A0 H0 H locs hD hS hA q h
    rcases h with ⟨k, e, hk⟩ | h
    · exact hD.2 k _ hk
    · exact hA q (Nat.le_trans hS.1 h)
  · intro D A0 H H1 u _ _ _ hF h1 h2
    exact ⟨h1, h2.weaken (fun k q _ h => hF q.1 h)⟩
theorem zFr.nil (ws : va_W) : zFr ws [] (fun _ : Unit => []) (fun _ => ws) := by
  refine ⟨fun _ _ _ => fun k q h => by simp at h, fun _ _ => ⟨fun i j p q h => by simp at h, fun k q h => by simp at h⟩, ?_, ?_⟩
  · intro A0 H0 H locs hD hS hA q h
    rcases h with ⟨k, e, hk⟩ | h
    · simp at hk
    · exact hA q (Nat.le_trans hS.1 h)
  · intro D A0 H H1 u hP hD hk _ _ _
    refine ⟨hP.kept (fun k x hx => hk x.1 ((hP k x hx).lt) ?_), hD⟩
    rintro (⟨j, e, hj⟩ | h)
    · simp at hj
    · exact absurd ((hP k x hx).lt) (Nat.not_lt.mpr h)
theorem zFr.of {S : Type} {ws wc wr : va_W} {wc' ws' : S → va_W} (isC isR perm : List Nat) (hC : isC.map (fun i => ws[i]?) = wc.map some) (hR : isR.map (fun i => ws[i]?) = wr.map some) (hnC : va_nd isC = true) (hn : va_nd isR = true) (hdis : ∀ i ∈ isR, i ∉ isC)
    (hC2 : isC.filterMap (fun i => ws[i]?) = wc) (hp : ∀ u, perm.filterMap (fun i => (wr ++ wc' u)[i]?) = ws' u) (hp2 : ∀ u, perm.map (fun i => (wr ++ wc' u)[i]?) = (ws' u).map some) (hpn : va_nd perm = true) : zFr ws wc wc' ws' := by
  refine ⟨fun D H h => h.sub isC hC2, fun A h => h.sub isC hnC hC, fun A0 H0 H locs hD hS hA => va_free hD hS hA isC hC, ?_⟩
  intro D A0 H H1 u hP hD hk hF hP1 hD1
  obtain ⟨a, b⟩ := va_join hP hD isC isR hC hR hn hdis hk hF hP1 hD1
  exact ⟨a.sub perm (hp u), b.sub perm hpn (hp2 u)⟩
/-! a contract that makes nothing: int, long, void -/
def zPc (D : va_G) (cI cZ cJ : ClassId) (av : List Value) (w0 : va_W) (sz : Nat) : Array Value → State → Prop := va_Pc av (fun U => U.heap.size = sz ∧ va_P D vwCl w0 U.heap ∧ va_K D vwCl (zTy cI cZ cJ) U ∧ va_D (fun _ => True) w0)
def zAt {S : Type} (D : va_G) (cI cZ cJ : ClassId) (w0 : va_W) (sz : Nat) (wf : S → va_W) : S → State → Prop := fun u t => va_P D vwCl (wf u) t.heap ∧ va_K D vwCl (zTy cI cZ cJ) t ∧ va_D (va_A w0 sz) (wf u)
def zMI {S : Type} (l : Launch) (y : MethodName) (ws : List Cond) (rm : Room) (D : va_G) (cI cZ cJ : ClassId) (av : List Value) (w0 : va_W) (wf : S → va_W) (Q : Int32 → S → Prop) : Prop := ∀ sz : Nat, Met l y ws rm (zPc D cI cZ cJ av w0 sz) (va_Qi Q (zAt D cI cZ cJ w0 sz wf) (va_A w0 sz)) 0 0 (va_A w0 sz)
def zML {S : Type} (l : Launch) (y : MethodName) (ws : List Cond) (rm : Room) (D : va_G) (cI cZ cJ : ClassId) (av : List Value) (w0 : va_W) (wf : S → va_W) (Q : Int64 → S → Prop) : Prop := ∀ sz : Nat, Met l y ws rm (zPc D cI cZ cJ av w0 sz) (va_Ql Q (zAt D cI cZ cJ w0 sz wf) (va_A w0 sz)) 0 0 (va_A w0 sz)
def zMV {S : Type} (l : Launch) (y : MethodName) (ws : List Cond) (rm : Room) (D : va_G) (cI cZ cJ : ClassId) (av : List Value) (w0 : va_W) (wf : S → va_W) (Q : S → Prop) : Prop := ∀ sz : Nat, Met l y ws rm (zPc D cI cZ cJ av w0 sz) (va_Qv Q (zAt D cI cZ cJ w0 sz wf) (va_A w0 sz)) 0 0 (va_A w0 sz)
theorem zPc_blind {D : va_G} {cI cZ cJ : ClassId} {av : List Value} {w0 : va_W} {sz : Nat} : FrameBlind (zPc D cI cZ cJ av w0 sz) := fun a U g mk q => by
  obtain ⟨q0, q1, qP, qK, qD⟩ := q
  exact ⟨q0, q1, qP, va_K.moved (u := U) (U := U.calling g mk a) (Vm.Alike.refl U.vm) qK, qD⟩
section ZR
variable {p : Program} {l : Launch} {e : Env} {R : Room} {s : State} {m : MethodId} {args : Array Value} {below : List Frame} {meth : Method} {c : Code} {H : Heap} {locs : List Loc} {cells slots : Nat} {Q : State → Prop} {cc : ByteArray} {nL : Nat} {own : String} {Ts : List Cond} {D : va_G} {cI cZ cJ : ClassId} {A : Nat → Prop} {ws ws1 : va_W} {pc : Nat} {ls : Array Slot} {rest : List Value} {ad q0 : Nat}
theorem z_ldI (C : zCx p s m args c cc nL own Ts D cI cZ cJ A) (Y : zDy D A s.heap ws H locs) {n : Nat} {f : Nat → Int32} (he : ws[q0]? = some (ad, .inl (cI, n, .inl f))) {i : Int32} (hin : vp_in i n) (hd : decode cc pc = .ok (.iaload, 1))
    (kk : W p l e R s m args below meth c H locs cells slots Q (F0 m (pc + 1) ls (.int (f i.toNatClampNeg) :: rest))) : W p l e R s m args below meth c H locs cells slots Q (F0 m pc ls (.int i :: .ref ad :: rest)) :=
  va_iald C.1 C.2.1 C.2.2.2.2.2.1 Y.1 q0 0 he rfl hin hd kk
theorem z_ldZ (C : zCx p s m args c cc nL own Ts D cI cZ cJ A) (Y : zDy D A s.heap ws H locs) {n : Nat} {f : Nat → Int32} (he : ws[q0]? = some (ad, .inl (cZ, n, .inl f))) {i : Int32} (hin : vp_in i n) (hd : decode cc pc = .ok (.baload, 1))
    (kk : W p l e R s m args below meth c H locs cells slots Q (F0 m (pc + 1) ls (.int (f i.toNatClampNeg) :: rest))) : W p l e R s m args below meth c H locs cells slots Q (F0 m pc ls (.int i :: .ref ad :: rest)) :=
  va_zald C.1 C.2.1 C.2.2.2.2.2.1 Y.1 q0 1 he rfl hin hd kk
theorem z_stI (C : zCx p s m args c cc nL own Ts D cI cZ cJ A) (Y : zDy D A s.heap ws H locs) {n : Nat} {f : Nat → Int32} (he : ws[q0]? = some (ad, .inl (cI, n, .inl f))) {i x : Int32} (hs : ws.set q0 (ad, .inl (cI, n, .inl (upd f i.toNatClampNeg x))) = ws1) (hin : vp_in i n) (hd : decode cc pc = .ok (.iastore, 1))
    (kk : ∀ (H1 : Heap) (locs1 : List Loc), zDy D A s.heap ws1 H1 locs1 → W p l e R s m args below meth c H1 locs1 cells slots Q (F0 m (pc + 1) ls rest)) : W p l e R s m args below meth c H locs cells slots Q (F0 m pc ls (.int x :: .int i :: .ref ad :: rest)) := by
  subst hs
  exact va_iast C.1 C.2.1 C.2.2.2.2.2.1 Y.1 Y.2.1 Y.2.2 q0 0 he rfl hin hd (fun H1 locs1 a b d => kk H1 locs1 ⟨a, b, d⟩)
theorem z_stZ (C : zCx p s m args c cc nL own Ts D cI cZ cJ A) (Y : zDy D A s.heap ws H locs) {n : Nat} {f : Nat → Int32} (he : ws[q0]? = some (ad, .inl (cZ, n, .inl f))) {i x : Int32} (hs : ws.set q0 (ad, .inl (cZ, n, .inl (upd f i.toNatClampNeg (vp_nar .boolean x)))) = ws1) (hin : vp_in i n) (hd : decode cc pc = .ok (.bastore, 1))
    (kk : ∀ (H1 : Heap) (locs1 : List Loc), zDy D A s.heap ws1 H1 locs1 → W p l e R s m args below meth c H1 locs1 cells slots Q (F0 m (pc + 1) ls rest)) : W p l e R s m args below meth c H locs cells slots Q (F0 m pc ls (.int x :: .int i :: .ref ad :: rest)) := by
  subst hs
  exact va_zast C.1 C.2.1 C.2.2.2.2.2.1 Y.1 Y.2.1 Y.2.2 q0 1 he rfl hin hd (fun H1 locs1 a b d => kk H1 locs1 ⟨a, b, d⟩)
theorem z_get (C : zCx p s m args c cc nL own Ts D cI cZ cJ A) (Y : zDy D A s.heap ws H locs) {Cn : String} {T : u_T} {N ci index : Nat} {v : Value} {fs : List Value} (hin : ∀ w ∈ u_ws Cn T N, w ∈ Ts) (hc : vwCl[ci]? = some (Cn, T, N)) (he : ws[q0]? = some (ad, .inr (ci, fs))) (k : Nat) (hk : k < N) (hl : Cond.fieldLink own index (T k).1 (T k).2.1 (T k).2.2.1 ∈ Ts) (hv : fs[k]? = some v) (hd : decode cc pc = .ok (.getfield index, 3))
    (kk : W p l e R s m args below meth c H locs cells slots Q (F0 m (pc + 3) ls (v :: rest))) : W p l e R s m args below meth c H locs cells slots Q (F0 m pc ls (.ref ad :: rest)) :=
  va_get C.1 C.2.1 C.2.2.2.2.1 hin C.2.2.2.1 C.2.2.2.2.2.1 Y.1 q0 he hc k hk (C.2.2.2.2.1 _ hl) (fun _ h => h) hv hd kk
theorem z_putI (C : zCx p s m args c cc nL own Ts D cI cZ cJ A) (Y : zDy D A s.heap ws H locs) {Cn : String} {T : u_T} {N ci index : Nat} {x : Int32} {fs : List Value} (hin : ∀ w ∈ u_ws Cn T N, w ∈ Ts) (hc : vwCl[ci]? = some (Cn, T, N)) (ty0 : Nat → FieldType) (hty : ∀ k, k < N → parseFieldDescriptor (T k).2.2.1 = some (ty0 k)) (hnm : ∀ a, a < N → ∀ b, b < N → a ≠ b → (T a).2.1 ≠ (T b).2.1)
    (he : ws[q0]? = some (ad, .inr (ci, fs))) (k : Nat) (hk : k < N) (hl : Cond.fieldLink own index (T k).1 (T k).2.1 (T k).2.2.1 ∈ Ts) (hfin : (T k).2.2.2 = false) (hd0 : parseFieldDescriptor (T k).2.2.1 = some .int) (hlen : k < fs.length) (hs : ws.set q0 (ad, .inr (ci, fs.set k (.int x))) = ws1) (hd : decode cc pc = .ok (.putfield index, 3))
    (kk : ∀ (H1 : Heap) (locs1 : List Loc), zDy D A s.heap ws1 H1 locs1 → W p l e R s m args below meth c H1 locs1 cells slots Q (F0 m (pc + 3) ls rest)) : W p l e R s m args below meth c H locs cells slots Q (F0 m pc ls (.int x :: .ref ad :: rest)) := by
  subst hs
  exact va_put C.1 C.2.1 C.2.2.2.2.1 hin ty0 hty hnm C.2.2.2.1 C.2.2.2.2.2.1 Y.1 Y.2.1 Y.2.2 q0 he hc k hk (C.2.2.2.2.1 _ hl) (fun _ h => h) hfin hd0 rfl rfl hlen hd (fun H1 locs1 a b d => kk H1 locs1 ⟨a, b, d⟩)
section ZC
variable {S : Type} {wc : va_W} {wc1 ws2 : S → va_W} {y : MethodName} {wsY : List Cond} {rm : Room} {Cn : String} {index maxL n b ci q1 : Nat} {bytes : ByteArray} {ret : Option FieldType} {As st0 : List Value} {fs : List Value} {qq : vw_C}
theorem z_pre {w0 : va_W} (C : zCx p s m args c cc nL own Ts D cI cZ cJ A) (Y : zDy D A s.heap ws H locs) (hF : zFr ws w0 wc1 ws2) {av : List Value} : ∀ U : State, U.heap = H → s.WarmedH U.vm → zPc D cI cZ cJ av w0 H.size av.toArray U := fun U hU hW =>
  ⟨rfl, by rw [hU], by rw [hU]; exact hF.1 D H Y.1, va_K.moved hW.alike C.2.2.2.2.2.1, (hF.2.1 A Y.2.1).weaken (fun _ _ _ _ => trivial)⟩
theorem z_callVi {Q1 : Int32 → S → Prop} (C : zCx p s m args c cc nL own Ts D cI cZ cJ A) (Y : zDy D A s.heap ws H locs) (hM : zMI l y wsY rm D cI cZ cJ (.ref b :: As) wc wc1 Q1) (hF : zFr ws wc wc1 ws2) (cw : CallW R s args own Cn index y bytes maxL ret wsY rm 0 0 n)
    (he : wc[q1]? = some (b, .inr (ci, fs))) (hc : vwCl[ci]? = some qq) (hq : qq.1 = Cn) (hn : As.length = n) (hls : ls.size = nL) (hst : st0 = As.reverse ++ .ref b :: rest) (hW : (rest.map fun v => v.category).sum ≤ 8) (hd : decode cc pc = .ok (.invokevirtual index, 3)) (hf : cells ≤ R.cells ∧ slots ≤ R.slots)
    (kk : ∀ (r : Int32) (u : S) (H1 : Heap) (locs1 : List Loc), zDy D A s.heap (ws2 u) H1 locs1 → Q1 r u → W p l e R s m args below meth c H1 locs1 cells slots Q (F0 m (pc + 3) ls (.int r :: rest))) : W p l e R s m args below meth c H locs cells slots Q (F0 m pc ls st0) := by
  have hFc := hF.2.2.1 A s.heap H locs Y.2.1 Y.2.2 C.2.2.2.2.2.2
  refine va_calli (va_runV (As := As) (rest := rest) ⟨C.1, C.2.1, C.2.2.1, C.2.2.2.1, C.2.2.2.2.1⟩ (hM H.size) cw ⟨zPc_blind, by rw [← hq]; exact va_recv C.2.2.2.2.2.1 (hF.1 D H Y.1) hc he, z_pre C Y hF⟩ rfl hn hls hst (lv_room hW) hd hf) Y.2.2 (fun q _ h => hFc q h) hFc (fun r u t H1 locs1 ht hvm hw hB hz1 hk1 hS => ?_)
  obtain ⟨hP1, hK1, hD1⟩ := hB
  rw [ht] at hP1
  obtain ⟨hP2, hD2⟩ := hF.2.2.2 D A H H1 u Y.1 Y.2.1 hk1 hFc hP1 hD1
  exact kk r u H1 locs1 ⟨hP2, hD2, hS⟩ hw
theorem z_callVl {Q1 : Int64 → S → Prop} (C : zCx p s m args c cc nL own Ts D cI cZ cJ A) (Y : zDy D A s.heap ws H locs) (hM : zML l y wsY rm D cI cZ cJ (.ref b :: As) wc wc1 Q1) (hF : zFr ws wc wc1 ws2) (cw : CallW R s args own Cn index y bytes maxL ret wsY rm 0 0 n)
    (he : wc[q1]? = some (b, .inr (ci, fs))) (hc : vwCl[ci]? = some qq) (hq : qq.1 = Cn) (hn : As.length = n) (hls : ls.size = nL) (hst : st0 = As.reverse ++ .ref b :: rest) (hW : (rest.map fun v => v.category).sum ≤ 8) (hd : decode cc pc = .ok (.invokevirtual index, 3)) (hf : cells ≤ R.cells ∧ slots ≤ R.slots)
    (kk : ∀ (r : Int64) (u : S) (H1 : Heap) (locs1 : List Loc), zDy D A s.heap (ws2 u) H1 locs1 → Q1 r u → W p l e R s m args below meth c H1 locs1 cells slots Q (F0 m (pc + 3) ls (.long r :: rest))) : W p l e R s m args below meth c H locs cells slots Q (F0 m pc ls st0) := by
  have hFc := hF.2.2.1 A s.heap H locs Y.2.1 Y.2.2 C.2.2.2.2.2.2
  refine va_calll (va_runV (As := As) (rest := rest) ⟨C.1, C.2.1, C.2.2.1, C.2.2.2.1, C.2.2.2.2.1⟩ (hM H.size) cw ⟨zPc_blind, by rw [← hq]; exact va_recv C.2.2.2.2.2.1 (hF.1 D H Y.1) hc he, z_pre C Y hF⟩ rfl hn hls hst (lv_room hW) hd hf) Y.2.2 (fun q _ h => hFc q h) hFc (fun r u t H1 locs1 ht hvm hw hB hz1 hk1 hS => ?_)
  obtain ⟨hP1, hK1, hD1⟩ := hB
  rw [ht] at hP1
  obtain ⟨hP2, hD2⟩ := hF.2.2.2 D A H H1 u Y.1 Y.2.1 hk1 hFc hP1 hD1
  exact kk r u H1 locs1 ⟨hP2, hD2, hS⟩ hw
theorem z_callVv {Q1 : S → Prop} (C : zCx p s m args c cc nL own Ts D cI cZ cJ A) (Y : zDy D A s.heap ws H locs) (hM : zMV l y wsY rm D cI cZ cJ (.ref b :: As) wc wc1 Q1) (hF : zFr ws wc wc1 ws2) (cw : CallW R s args own Cn index y bytes maxL ret wsY rm 0 0 n)
    (he : wc[q1]? = some (b, .inr (ci, fs))) (hc : vwCl[ci]? = some qq) (hq : qq.1 = Cn) (hn : As.length = n) (hls : ls.size = nL) (hst : st0 = As.reverse ++ .ref b :: rest) (hW : (rest.map fun v => v.category).sum ≤ 8) (hd : decode cc pc = .ok (.invokevirtual index, 3)) (hf : cells ≤ R.cells ∧ slots ≤ R.slots)
    (kk : ∀ (u : S) (H1 : Heap) (locs1 : List Loc), zDy D A s.heap (ws2 u) H1 locs1 → Q1 u → W p l e R s m args below meth c H1 locs1 cells slots Q (F0 m (pc + 3) ls rest)) : W p l e R s m args below meth c H locs cells slots Q (F0 m pc ls st0) := by
  have hFc := hF.2.2.1 A s.heap H locs Y.2.1 Y.2.2 C.2.2.2.2.2.2
  refine va_callv (va_runV (As := As) (rest := rest) ⟨C.1, C.2.1, C.2.2.1, C.2.2.2.1, C.2.2.2.2.1⟩ (hM H.size) cw ⟨zPc_blind, by rw [← hq]; exact va_recv C.2.2.2.2.2.1 (hF.1 D H Y.1) hc he, z_pre C Y hF⟩ rfl hn hls hst (lv_room hW) hd hf) Y.2.2 (fun q _ h => hFc q h) hFc (fun u t H1 locs1 ht hvm hw hB hz1 hk1 hS => ?_)
  obtain ⟨hP1, hK1, hD1⟩ := hB
  rw [ht] at hP1
  obtain ⟨hP2, hD2⟩ := hF.2.2.2 D A H H1 u Y.1 Y.2.1 hk1 hFc hP1 hD1
  exact kk u H1 locs1 ⟨hP2, hD2, hS⟩ hw
theorem z_callSi {Q1 : Int32 → S → Prop} (C : zCx p s m args c cc nL own Ts D cI cZ cJ A) (Y : zDy D A s.heap ws H locs) (hM : zMI l y wsY rm D cI cZ cJ As wc wc1 Q1) (hF : zFr ws wc wc1 ws2) (cw : CallB R s args own index y bytes maxL ret wsY rm 0 0 n ∧ (Cond.static y).before args s = true)
    (hn : As.length = n) (hls : ls.size = nL) (hst : st0 = As.reverse ++ rest) (hW : (rest.map fun v => v.category).sum ≤ 8) (hd : decode cc pc = .ok (.invokestatic index, 3)) (hf : cells ≤ R.cells ∧ slots ≤ R.slots)
    (kk : ∀ (r : Int32) (u : S) (H1 : Heap) (locs1 : List Loc), zDy D A s.heap (ws2 u) H1 locs1 → Q1 r u → W p l e R s m args below meth c H1 locs1 cells slots Q (F0 m (pc + 3) ls (.int r :: rest))) : W p l e R s m args below meth c H locs cells slots Q (F0 m pc ls st0) := by
  have hFc := hF.2.2.1 A s.heap H locs Y.2.1 Y.2.2 C.2.2.2.2.2.2
  refine va_calli (va_runS (As := As) (rest := rest) ⟨C.1, C.2.1, C.2.2.1, C.2.2.2.1, C.2.2.2.2.1⟩ (hM H.size) cw ⟨zPc_blind, z_pre C Y hF⟩ rfl hn hls hst (lv_room hW) hd hf) Y.2.2 (fun q _ h => hFc q h) hFc (fun r u t H1 locs1 ht hvm hw hB hz1 hk1 hS => ?_)
  obtain ⟨hP1, hK1, hD1⟩ := hB
  rw [ht] at hP1
  obtain ⟨hP2, hD2⟩ := hF.2.2.2 D A H H1 u Y.1 Y.2.1 hk1 hFc hP1 hD1
  exact kk r u H1 locs1 ⟨hP2, hD2, hS⟩ hw
end ZC
end ZR
/-! the ends of a contract that makes nothing -/
theorem z_nar01 {r : Int32} (h : r = 0 ∨ r = 1) : narrow .boolean (.int r) = .int r := by
  rcases h with rfl | rfl <;> rfl
section ZO
variable {S : Type} {l : Launch} {y : MethodName} {ws ws' : List Cond} {rm : Room} {D : va_G} {cI cZ cJ : ClassId} {av : List Value} {w0 : va_W} {wf : S → va_W} {cc : ByteArray} {maxL : Nat} {own : String}
theorem z_ofI {Q1 : Int32 → S → Prop} (hy : plainName y.cls = true) (hown : y.cls = own) (hw : ws = Cond.code y cc maxL (some .int) :: ws') (hlen : (lg_sl av).length ≤ maxL)
    (body : ∀ {p : Program} {e : Env} {s : State} {m : MethodId} {args : Array Value} {below : List Frame} {meth : Method} {c : Code} {A : Nat → Prop} {Q : State → Prop} {ls : Array Slot}, zCx p s m args c cc maxL own ws D cI cZ cJ A → zDy D A s.heap w0 s.heap [] → lv_has ls maxL (lv_args 0 av) →
      (∀ {pc : Nat} {H : Heap} {locs : List Loc} {ls : Array Slot} {r : Int32} {u : S}, zDy D A s.heap (wf u) H locs → Q1 r u → decode cc pc = .ok (.ireturn, 1) → W p l e rm s m args below meth c H locs 0 0 Q (F0 m pc ls [.int r])) →
      W p l e rm s m args below meth c s.heap [] 0 0 Q (F0 m 0 ls [])) : zMI l y ws rm D cI cZ cJ av w0 wf Q1 := by
  intro sz
  refine Met.ofW (cc := cc) (maxL := maxL) (ret := (some .int)) hy hw ?_
  intro p e s m args below meth c s₁ B hml hv
  obtain ⟨rfl, hsz, hP, hK, hD0⟩ := hv
  subst hsz
  have hts := atoms_spec (ws := ws) B.pre
  have hfc : s.vm.findClass own = some m.cls := by rw [← hown]; exact findClass_of_methodNamed B.named
  have hl := lv_entry av (n := maxL) hlen
  rw [lg_entry_eq]
  refine body ⟨B.exec, B.bytes, hml, hfc, hts, hK, fun q h => Or.inr h⟩ ⟨hP, hD0.self, va_S.rf⟩ hl (fun {pc} {H} {locs} {ls} {r} {u} Y hq hd => ?_)
  exact W.iret B.exec B.bytes B.returns (fun t ht hW => ⟨⟨r, u, rfl, hq, by rw [ht]; exact Y.1, va_K.moved hW.alike hK, Y.2.1⟩, Y.2.2.F ht⟩) Y.2.2.2.2 hd B.notSynchronized
theorem z_ofZ {Q1 : Int32 → S → Prop} (hy : plainName y.cls = true) (hown : y.cls = own) (hw : ws = Cond.code y cc maxL (some .boolean) :: ws') (hlen : (lg_sl av).length ≤ maxL)
    (body : ∀ {p : Program} {e : Env} {s : State} {m : MethodId} {args : Array Value} {below : List Frame} {meth : Method} {c : Code} {A : Nat → Prop} {Q : State → Prop} {ls : Array Slot}, zCx p s m args c cc maxL own ws D cI cZ cJ A → zDy D A s.heap w0 s.heap [] → lv_has ls maxL (lv_args 0 av) →
      (∀ {pc : Nat} {H : Heap} {locs : List Loc} {ls : Array Slot} {r : Int32} {u : S}, zDy D A s.heap (wf u) H locs → (r = 0 ∨ r = 1) → Q1 r u → decode cc pc = .ok (.ireturn, 1) → W p l e rm s m args below meth c H locs 0 0 Q (F0 m pc ls [.int r])) →
      W p l e rm s m args below meth c s.heap [] 0 0 Q (F0 m 0 ls [])) : zMI l y ws rm D cI cZ cJ av w0 wf Q1 := by
  intro sz
  refine Met.ofW (cc := cc) (maxL := maxL) (ret := (some .boolean)) hy hw ?_
  intro p e s m args below meth c s₁ B hml hv
  obtain ⟨rfl, hsz, hP, hK, hD0⟩ := hv
  subst hsz
  have hts := atoms_spec (ws := ws) B.pre
  have hfc : s.vm.findClass own = some m.cls := by rw [← hown]; exact findClass_of_methodNamed B.named
  have hl := lv_entry av (n := maxL) hlen
  rw [lg_entry_eq]
  refine body ⟨B.exec, B.bytes, hml, hfc, hts, hK, fun q h => Or.inr h⟩ ⟨hP, hD0.self, va_S.rf⟩ hl (fun {pc} {H} {locs} {ls} {r} {u} Y h01 hq hd => ?_)
  exact W.zret B.exec B.bytes B.returns (z_nar01 h01) (fun t ht hW => ⟨⟨r, u, rfl, hq, by rw [ht]; exact Y.1, va_K.moved hW.alike hK, Y.2.1⟩, Y.2.2.F ht⟩) Y.2.2.2.2 hd B.notSynchronized
theorem z_ofL {Q1 : Int64 → S → Prop} (hy : plainName y.cls = true) (hown : y.cls = own) (hw : ws = Cond.code y cc maxL (some .long) :: ws') (hlen : (lg_sl av).length ≤ maxL)
    (body : ∀ {p : Program} {e : Env} {s : State} {m : MethodId} {args : Array Value} {below : List Frame} {meth : Method} {c : Code} {A : Nat → Prop} {Q : State → Prop} {ls : Array Slot}, zCx p s m args c cc maxL own ws D cI cZ cJ A → zDy D A s.heap w0 s.heap [] → lv_has ls maxL (lv_args 0 av) →
      (∀ {pc : Nat} {H : Heap} {locs : List Loc} {ls : Array Slot} {r : Int64} {u : S}, zDy D A s.heap (wf u) H locs → Q1 r u → decode cc pc = .ok (.lreturn, 1) → W p l e rm s m args below meth c H locs 0 0 Q (F0 m pc ls [.long r])) →
      W p l e rm s m args below meth c s.heap [] 0 0 Q (F0 m 0 ls [])) : zML l y ws rm D cI cZ cJ av w0 wf Q1 := by
  intro sz
  refine Met.ofW (cc := cc) (maxL := maxL) (ret := (some .long)) hy hw ?_
  intro p e s m args below meth c s₁ B hml hv
  obtain ⟨rfl, hsz, hP, hK, hD0⟩ := hv
  subst hsz
  have hts := atoms_spec (ws := ws) B.pre
  have hfc : s.vm.findClass own = some m.cls := by rw [← hown]; exact findClass_of_methodNamed B.named
  have hl := lv_entry av (n := maxL) hlen
  rw [lg_entry_eq]
  refine body ⟨B.exec, B.bytes, hml, hfc, hts, hK, fun q h => Or.inr h⟩ ⟨hP, hD0.self, va_S.rf⟩ hl (fun {pc} {H} {locs} {ls} {r} {u} Y hq hd => ?_)
  exact W.lret B.exec B.bytes B.returns (fun t ht hW => ⟨⟨r, u, rfl, hq, by rw [ht]; exact Y.1, va_K.moved hW.alike hK, Y.2.1⟩, Y.2.2.F ht⟩) Y.2.2.2.2 hd B.notSynchronized
theorem z_ofV {Q1 : S → Prop} (hy : plainName y.cls = true) (hown : y.cls = own) (hw : ws = Cond.code y cc maxL none :: ws') (hlen : (lg_sl av).length ≤ maxL)
    (body : ∀ {p : Program} {e : Env} {s : State} {m : MethodId} {args : Array Value} {below : List Frame} {meth : Method} {c : Code} {A : Nat → Prop} {Q : State → Prop} {ls : Array Slot}, zCx p s m args c cc maxL own ws D cI cZ cJ A → zDy D A s.heap w0 s.heap [] → lv_has ls maxL (lv_args 0 av) →
      (∀ {pc : Nat} {H : Heap} {locs : List Loc} {ls : Array Slot} {u : S}, zDy D A s.heap (wf u) H locs → Q1 u → decode cc pc = .ok (.return_, 1) → W p l e rm s m args below meth c H locs 0 0 Q (F0 m pc ls [])) →
      W p l e rm s m args below meth c s.heap [] 0 0 Q (F0 m 0 ls [])) : zMV l y ws rm D cI cZ cJ av w0 wf Q1 := by
  intro sz
  refine Met.ofW (cc := cc) (maxL := maxL) (ret := none) hy hw ?_
  intro p e s m args below meth c s₁ B hml hv
  obtain ⟨rfl, hsz, hP, hK, hD0⟩ := hv
  subst hsz
  have hts := atoms_spec (ws := ws) B.pre
  have hfc : s.vm.findClass own = some m.cls := by rw [← hown]; exact findClass_of_methodNamed B.named
  have hl := lv_entry av (n := maxL) hlen
  rw [lg_entry_eq]
  refine body ⟨B.exec, B.bytes, hml, hfc, hts, hK, fun q h => Or.inr h⟩ ⟨hP, hD0.self, va_S.rf⟩ hl (fun {pc} {H} {locs} {ls} {u} Y hq hd => ?_)
  exact W.vret B.exec B.bytes B.returns (fun t ht hW => ⟨⟨u, rfl, hq, by rw [ht]; exact Y.1, va_K.moved hW.alike hK, Y.2.1⟩, Y.2.2.F ht⟩) Y.2.2.2.2 hd B.notSynchronized
end ZO
/-! naming, and the two of Math -/
theorem z_nv {α : Type} {X : α} {P : α → Prop} (h : ∀ t, t = X → P t) : ∃ t, t = X ∧ P t := ⟨X, rfl, h X rfl⟩
theorem z_nm {α : Type} {kf : α → va_W} {X : α} {P : α → Prop} {D : va_G} {A : Nat → Prop} {H0 H : Heap} {locs : List Loc} (Y : zDy D A H0 (kf X) H locs) (h : ∀ t, t = X → P t) : ∃ t, t = X ∧ zDy D A H0 (kf t) H locs ∧ P t := ⟨X, rfl, Y, h X rfl⟩
def z_mw (own : String) (index : Nat) (y : MethodName) (code : ByteArray) (Ts : List Cond) : Prop := Cond.methodLink own index y ∈ Ts ∧ Cond.static y ∈ Ts ∧ Cond.initialized "java/lang/Math" ∈ Ts ∧ Cond.code y code 2 (some .int) ∈ Ts
section ZM
variable {p : Program} {l : Launch} {e : Env} {R : Room} {s : State} {m : MethodId} {args : Array Value} {below : List Frame} {meth : Method} {c : Code} {H : Heap} {locs : List Loc} {cells slots : Nat} {Q : State → Prop} {cc : ByteArray} {nL : Nat} {own : String} {Ts : List Cond} {D : va_G} {cI cZ cJ : ClassId} {A : Nat → Prop} {pc : Nat} {ls : Array Slot} {rest : List Value}
theorem z_topi {x : Int32} {P : Int32 → Prop} (hv : ∀ t, t = x → P t) (k : ∀ t : Int32, t = x → P t → W p l e R s m args below meth c H locs cells slots Q (F0 m pc ls (.int t :: rest))) : W p l e R s m args below meth c H locs cells slots Q (F0 m pc ls (.int x :: rest)) := k x rfl (hv x rfl)
theorem z_topl {x : Int64} {P : Int64 → Prop} (hv : ∀ t, t = x → P t) (k : ∀ t : Int64, t = x → P t → W p l e R s m args below meth c H locs cells slots Q (F0 m pc ls (.long t :: rest))) : W p l e R s m args below meth c H locs cells slots Q (F0 m pc ls (.long x :: rest)) := k x rfl (hv x rfl)
theorem z_mmin (C : zCx p s m args c cc nL own Ts D cI cZ cJ A) (hls : ls.size = nL) {index : Nat} (hw : z_mw own index Lib.Math.min.name Lib.Math.min.code Ts) (hframes : 1 ≤ R.frames) (hlocals : (rest.map fun v => v.category).sum + 13 ≤ R.locals) (hc : cells ≤ R.cells) (hs : slots ≤ R.slots) {x y : Int32} (hd : decode cc pc = .ok (.invokestatic index, 3))
    (kk : W p l e R s m args below meth c H locs cells slots Q (F0 m (pc + 3) ls (.int (if y < x then y else x) :: rest))) : W p l e R s m args below meth c H locs cells slots Q (F0 m pc ls (.int y :: .int x :: rest)) :=
  va_mmin C.1 C.2.1 (C.2.2.1.trans hls.symm) C.2.2.2.1 (C.2.2.2.2.1 _ hw.1) (C.2.2.2.2.1 _ hw.2.1) (C.2.2.2.2.1 _ hw.2.2.1) (C.2.2.2.2.1 _ hw.2.2.2) hframes hlocals hc hs hd kk
theorem z_mmax (C : zCx p s m args c cc nL own Ts D cI cZ cJ A) (hls : ls.size = nL) {index : Nat} (hw : z_mw own index Lib.Math.max.name Lib.Math.max.code Ts) (hframes : 1 ≤ R.frames) (hlocals : (rest.map fun v => v.category).sum + 13 ≤ R.locals) (hc : cells ≤ R.cells) (hs : slots ≤ R.slots) {x y : Int32} (hd : decode cc pc = .ok (.invokestatic index, 3))
    (kk : W p l e R s m args below meth c H locs cells slots Q (F0 m (pc + 3) ls (.int (if x < y then y else x) :: rest))) : W p l e R s m args below meth c H locs cells slots Q (F0 m pc ls (.int y :: .int x :: rest)) :=
  va_mmax C.1 C.2.1 (C.2.2.1.trans hls.symm) C.2.2.2.1 (C.2.2.2.2.1 _ hw.1) (C.2.2.2.2.1 _ hw.2.1) (C.2.2.2.2.1 _ hw.2.2.1) (C.2.2.2.2.1 _ hw.2.2.2) hframes hlocals hc hs hd kk
end ZM
