/-! THE CLAIM OUT OF ONE WALK OF THE LAW'S BODY. Your part is whole_start (and what it stands on); all else here is the same for every law, but numbers. -/
def R_law : String := "PencilWorksLaw"
def lw_P (b : Addr) (xs : List Int32) (args : Array Value) (s : State) : Prop := args = #[.ref b] ∧ s.IntsAt b xs ∧ xs.length ≤ 2560 ∧ (Jvm.Cond.and given_1 narrow_1).before args s = true
def lw_Q (_ : Array Value) (s : State) (o : Outcome) (t : State) : Prop := o = .returned (some (.int 1)) ∧ Framed s o t [] 601024 7293034
def lw_Z (below : List Frame) (a : Array Value) (s : State) : State → Prop := fun t => ∃ o, t.status = .running ∧ Ended t below o ∧ lw_Q a s o t
/-- the law's own end, with 1 on the stack, nothing written that was there before, its room as the claim has it -/
theorem lw_ret {p : Program} {l : Launch} {e : Env} {s : State} {m : MethodId} {below : List Frame} {meth : Method} {c : Code} {b : Nat} (hx : p.tables.exec = Jvm.exec) (hb : c.code = code) (hr : meth.sig.returnType = ret) (hlocks : meth.locks = false) {pc : Nat} {H : Heap} {ls : Array Slot} (hdg : decode code pc = .ok (.ireturn, 1)) : W p l e room_1 s m #[Value.ref b] below meth c H [] 601024 7293034 (lw_Z below #[Value.ref b] s) (F0 m pc ls [.int 1]) := by
  intro T hT X
  obtain ⟨fs, hret, hrun, hended, hW, hframe⟩ := X.leave (v := some (.int 1)) (hlocks := hlocks) (fun h => by rw [hr] at h; cases h)
  have hmeth' : T.vm.method? m = some meth := X.method'
  refine ⟨T.setFrames fs, ?_, .returned (some (.int 1)), hrun, hended, rfl, ⟨_, rfl⟩, hW, hframe⟩
  jvm_step X.here [X.here.top, hx, hb, hdg, hmeth', hr, ret, narrow_b1]
  (try refine ⟨rfl, ?_⟩); (try refine ⟨rfl, ?_⟩)
  first | (intro acts; rw [hret _ acts rfl rfl rfl]) | rw [hret _ _ rfl rfl rfl]
  exact Steps.refl _
/-- what holds at the law's entry: the machine, the code, the tables' words (any of lw_tbl by 'hts w (by decide +kernel)'), the script of L ints xs at the cell b, what the Statement gives of the start (any of its parts by flat_of_before) -/
def lw_At (p : Program) (s : State) (m : MethodId) (meth : Method) (c : Code) (b L : Nat) (xs : Nat → Int32) : Prop :=
  p.tables.exec = Jvm.exec ∧ c.code = code ∧ meth.sig.returnType = ret ∧ c.maxLocals = 7 ∧ s.vm.findClass R_law = some m.cls ∧ (∀ w ∈ lw_tbl, w.before #[Value.ref b] s = true) ∧ va_X b L xs s s.heap ∧ b < s.heap.size ∧ meth.locks = false ∧ (Jvm.Cond.and given_1 narrow_1).before #[Value.ref b] s = true

/-- what is left of the claim when the machine is done with: the two sides' numbers -/
def zPure (L : Nat) (xs : Nat → Int32) : Prop := ∃ I : Nat → Int32 → Nat → Nat → zSt → zSt → zSt → zSt → zSt → zSt → zSt → (Nat → Int64) → Prop, (∃ n : Nat, I n 0 66 10659 in0 in1 in2 in3 in4 in5 in7 (fun _ => 0)) ∧
  ∀ (n : Nat) (x4 : Int32) (cs sl : Nat) (u0 : zSt) (u1 : zSt) (u2 : zSt) (u3 : zSt) (u4 : zSt) (u5 : zSt) (u7 : zSt) (u8 : (Nat → Int64)), I n x4 cs sl u0 u1 u2 u3 u4 u5 u7 u8 → wp_L_law_23 L xs (fun x4 cs sl u0 u1 u2 u3 u4 u5 u7 u8 => ∃ k : Nat, k < n ∧ I k x4 cs sl u0 u1 u2 u3 u4 u5 u7 u8) x4 cs sl u0 u1 u2 u3 u4 u5 u7 u8
theorem zs_str : ∀ q ∈ zStrs, Cond.exactly (.string RX6 q.1) "java/lang/String" ∈ flatC (Jvm.Cond.and given_1 narrow_1) ∧ Cond.stringRef RX6 q.1 q.2 ∈ lw_tbl := by decide +kernel
theorem zs_ncs : ∀ q ∈ zNcs, Cond.not (.castable q.1 q.2) ∈ flatC (Jvm.Cond.and given_1 narrow_1) := by decide +kernel
theorem zs_bw : ∀ w ∈ zBw, w ∈ lw_tbl ∧ w.onTables = true := by decide +kernel
theorem zs_nl : ∀ w ∈ zNls, w ∈ lw_tbl ∧ w.onTables = true := by decide +kernel
theorem zs_st : Cond.laysStatic Bundle.tN "UNASSIGNED_STACK" Bundle.steD ∈ lw_tbl ∧ Cond.laysStatic Bundle.tN "SUPPRESSED_SENTINEL" Bundle.listD ∈ lw_tbl ∧ Cond.initialized Bundle.tN ∈ lw_tbl ∧ Cond.isRef (.static Bundle.tN "UNASSIGNED_STACK" Bundle.steD) ∈ flatC (Jvm.Cond.and given_1 narrow_1) ∧ Cond.isRef (.static Bundle.tN "SUPPRESSED_SENTINEL" Bundle.listD) ∈ flatC (Jvm.Cond.and given_1 narrow_1) := by decide +kernel
theorem zs_xe {s : State} {args : Array Value} (hts : ∀ w ∈ lw_tbl, w.before args s = true) (hgv : (Jvm.Cond.and given_1 narrow_1).before args s = true) : zXe (fun q => s.heap.size ≤ q) s s.heap := by
  have hs := flat_of_before _ hgv
  obtain ⟨z1, z2, z3, z4, z5⟩ := zs_st
  have hA : ∀ a : Nat, a < s.heap.size → ¬ (fun q : Nat => s.heap.size ≤ q) a := fun a h => Nat.not_le.mpr h
  refine ⟨vx_Zqof (hts _ z1) (hts _ z3) (hs _ z4) hA, vx_Zqof (hts _ z2) (hts _ z3) (hs _ z5) hA, fun q hq => ?_, fun w hw => va_Nw.of (zs_bw w hw).2 (hts w (zs_bw w hw).1), fun q hq => va_Nc.of (hs _ (zs_ncs q hq))⟩
  obtain ⟨a, c, cell, k, h1, -⟩ := Cond.exactly_spec (hs _ (zs_str q hq).1)
  exact ⟨a, vk_R.of (hts _ (zs_str q hq).2) h1⟩
theorem zs_nls {s : State} {args : Array Value} (hts : ∀ w ∈ lw_tbl, w.before args s = true) : ∀ w ∈ zNls, va_Nw w s := fun w hw => va_Nw.of (zs_nl w hw).2 (hts w (zs_nl w hw).1)
theorem zs_arr {s : State} {args : Array Value} {ty : FieldType} (h : (Cond.arrayClass ty).before args s = true) (hty : ∀ C, ty ≠ .object C) : ∃ cA : ClassId, ArrOfT s cA ty ∧ va_RA s cA ty := by
  obtain ⟨c, k, comp, h1, h2, h3⟩ := Cond.arrayClass_spec h
  refine ⟨c, fun n z => ⟨fun k h => (by cases h), k, h2, comp, h3⟩, ?_⟩
  cases ty with
  | object C => exact absurd rfl (hty C)
  | _ => exact h1
theorem zs_i0 : Cond.instantiable RX0 5 ∈ lw_tbl := by decide +kernel
theorem zs_i1 : Cond.instantiable RX1 16 ∈ lw_tbl := by decide +kernel
theorem zs_i2 : Cond.instantiable RX2 7 ∈ lw_tbl := by decide +kernel
theorem zs_i3 : Cond.instantiable RX3 9 ∈ lw_tbl := by decide +kernel
theorem zs_i4 : Cond.instantiable RX4 7 ∈ lw_tbl := by decide +kernel
theorem zs_i5 : Cond.instantiable RX5 6 ∈ lw_tbl := by decide +kernel
theorem zs_i6 : Cond.instantiable RX6 6 ∈ lw_tbl := by decide +kernel
theorem zs_i7 : Cond.instantiable RX7 42 ∈ lw_tbl := by decide +kernel
theorem zs_k {s : State} {args : Array Value} (hts : ∀ w ∈ lw_tbl, w.before args s = true) : ∃ (D : va_G) (cI cZ cJ : ClassId), va_K D vwCl (zTy cI cZ cJ) s := by
  obtain ⟨c0, s0, k0⟩ := u_known (C := RX0) (T := TX0) (N := 5) (n := 5) hts inX0 (hts _ zs_i0)
  obtain ⟨c1, s1, k1⟩ := u_known (C := RX1) (T := TX1) (N := 16) (n := 16) hts inX1 (hts _ zs_i1)
  obtain ⟨c2, s2, k2⟩ := u_known (C := RX2) (T := TX2) (N := 7) (n := 7) hts inX2 (hts _ zs_i2)
  obtain ⟨c3, s3, k3⟩ := u_known (C := RX3) (T := TX3) (N := 9) (n := 9) hts inX3 (hts _ zs_i3)
  obtain ⟨c4, s4, k4⟩ := u_known (C := RX4) (T := TX4) (N := 7) (n := 7) hts inX4 (hts _ zs_i4)
  obtain ⟨c5, s5, k5⟩ := u_known (C := RX5) (T := TX5) (N := 6) (n := 6) hts inX5 (hts _ zs_i5)
  obtain ⟨c6, s6, k6⟩ := u_known (C := RX6) (T := TX6) (N := 6) (n := 6) hts inX6 (hts _ zs_i6)
  obtain ⟨c7, s7, k7⟩ := u_known (C := RX7) (T := TX7) (N := 42) (n := 42) hts inX7 (hts _ zs_i7)
  obtain ⟨cI, hI⟩ := zs_arr (hts (.arrayClass .int) (by decide +kernel)) (fun C => by intro h; cases h)
  obtain ⟨cZ, hZ⟩ := zs_arr (hts (.arrayClass .boolean) (by decide +kernel)) (fun C => by intro h; cases h)
  obtain ⟨cJ, hJ⟩ := zs_arr (hts (.arrayClass .long) (by decide +kernel)) (fun C => by intro h; cases h)
  refine ⟨(fun k => if k = 0 then c0 else if k = 1 then c1 else if k = 2 then c2 else if k = 3 then c3 else if k = 4 then c4 else if k = 5 then c5 else if k = 6 then c6 else c7, fun k => if k = 0 then s0 else if k = 1 then s1 else if k = 2 then s2 else if k = 3 then s3 else if k = 4 then s4 else if k = 5 then s5 else if k = 6 then s6 else s7), cI, cZ, cJ, ?_, ?_⟩
  · intro k q hq
    match k, hq with
    | 0, hq => cases hq; exact k0
    | 1, hq => cases hq; exact k1
    | 2, hq => cases hq; exact k2
    | 3, hq => cases hq; exact k3
    | 4, hq => cases hq; exact k4
    | 5, hq => cases hq; exact k5
    | 6, hq => cases hq; exact k6
    | 7, hq => cases hq; exact k7
    | k + 8, hq => simp [vwCl] at hq
  · intro k q hq
    match k, hq with
    | 0, hq => cases hq; exact hI
    | 1, hq => cases hq; exact hZ
    | 2, hq => cases hq; exact hJ
    | k + 3, hq => simp [zTy] at hq
section ZI7
variable {p : Program} {l : Launch} {e : Env} {R : Room} {s : State} {m : MethodId} {args : Array Value} {below : List Frame} {meth : Method} {c : Code} {H : Heap} {locs : List Loc} {cells slots : Nat} {Q : State → Prop} {cc : ByteArray} {nL : Nat} {own : String} {Ts : List Cond} {D : va_G} {cI cZ cJ : ClassId} {A : Nat → Prop} {ws ws1 : va_W} {pc : Nat} {ls : Array Slot} {rest : List Value} {S : Type} {wc : va_W} {wc1 ws2 : S → va_W} {y : MethodName} {wsY : List Cond} {rm : Room} {index maxL mc ms b : Nat} {bytes : ByteArray} {st0 : List Value} {Pc : Array Value → State → Prop}
theorem z_callJ {Q1 : S → Prop} (C : zCx p s m args c cc nL own Ts D cI cZ cJ A) (Y : zDy D A s.heap ws H locs) (hM : Met l y wsY rm Pc (va_Qv Q1 (zAt D cI cZ cJ wc H.size wc1) (va_A wc H.size)) mc ms (va_A wc H.size)) (hbl : FrameBlind Pc) (hpr : ∀ U : State, U.heap = H → s.WarmedH U.vm → Pc #[.ref b] U) (hF : zFr ws wc wc1 ws2) (cw : CallB R s args own index y bytes maxL none wsY rm mc ms 0 ∧ y.name = "<init>" ∧ (Cond.instanceMethod y).before args s = true)
    (hls : ls.size = nL) (hst : st0 = .ref b :: rest) (hW : (rest.map fun v => v.category).sum ≤ 8) (hd : decode cc pc = .ok (.invokespecial index, 3)) (hf : cells + mc ≤ R.cells ∧ slots + ms ≤ R.slots)
    (kk : ∀ (u : S) (H1 : Heap) (locs1 : List Loc), zDy D A s.heap (ws2 u) H1 locs1 → Q1 u → W p l e R s m args below meth c H1 locs1 (cells + mc) (slots + ms) Q (F0 m (pc + 3) ls rest)) : W p l e R s m args below meth c H locs cells slots Q (F0 m pc ls st0) := by
  have hFc := hF.2.2.1 A s.heap H locs Y.2.1 Y.2.2 C.2.2.2.2.2.2
  refine va_callv (va_runI (As := []) (rest := rest) ⟨C.1, C.2.1, C.2.2.1, C.2.2.2.1, C.2.2.2.2.1⟩ hM cw ⟨hbl, hpr⟩ rfl rfl hls hst (lv_room hW) hd hf) Y.2.2 (fun q _ h => hFc q h) hFc (fun u t H1 locs1 ht hvm hw hB hz1 hk1 hS => ?_)
  obtain ⟨hP1, hK1, hD1⟩ := hB
  rw [ht] at hP1
  obtain ⟨hP2, hD2⟩ := hF.2.2.2 D A H H1 u Y.1 Y.2.1 hk1 hFc hP1 hD1
  exact kk u H1 locs1 ⟨hP2, hD2, hS⟩ hw
end ZI7
set_option maxHeartbeats 8000000 in
set_option maxRecDepth 100000 in
theorem zs_go {p : Program} {e : Env} {s : State} {m : MethodId} {below : List Frame} {meth : Method} {c : Code} (l : Launch) (hlt : l.stackTraces = false) {b L : Nat} {xs : Nat → Int32} (hpu : zPure L xs) (C0 : lw_At p s m meth c b L xs) : W p l e room_1 s m #[Value.ref b] below meth c s.heap [] 0 0 (lw_Z below #[Value.ref b] s) (entryFrame m ([Value.ref b] : List Value).toArray 7) := by
  obtain ⟨hx, hb, hr, hml, hown, hts0, hXs, hbl, hlocks, hgv⟩ := id C0
  obtain ⟨D, cI, cZ, cJ, hK⟩ := zs_k hts0
  have hX := zs_xe hts0 hgv
  have hNl := zs_nls hts0
  obtain ⟨I, ⟨n0, hI0⟩, hI⟩ := hpu
  have hbA : ¬ (fun q : Nat => s.heap.size ≤ q) b := Nat.not_le.mpr hbl
  have C : zCx p s m #[.ref b] c cL_law 7 RL wsL_law D cI cZ cJ (fun q : Nat => s.heap.size ≤ q) := ⟨hx, hb, hml, hown, fun w h => hts0 w (wsL_law_in w h), hK, fun _ h => h⟩
  have Y : zDy D (fun q : Nat => s.heap.size ≤ q) s.heap [] s.heap [] := ⟨fun k q h => by simp at h, ⟨fun i j p q h => by simp at h, fun k q h => by simp at h⟩, va_S.rf⟩
  have hl := lv_entry ([.ref b]) (n := 7) (Nat.le_of_ble_eq_true rfl)
  rw [lg_entry_eq]
  generalize (lg_sl ([.ref b]) ++ List.replicate (7 - (lg_sl ([.ref b])).length) Slot.unset).toArray = ls at hl ⊢
  have hl : lv_has ls 7 [(0, .ref b)] := hl
  obtain ⟨-, -, -, -, hts, -, -⟩ := id C
  generalize hAe : (fun q : Nat => s.heap.size ≤ q) = A at C Y hX hbA
  refine z_new C Y (ci := 6) (fs := df6) inlX6 tyX6 tyX6_ok (by decide +kernel) (by decide +kernel) (by decide +kernel) rfl hdf6 (Nat.le_of_ble_eq_true rfl) (Nat.le_of_ble_eq_true rfl) dL_law_0 (fun q6 H Y => ?_)
  have Y : zDy D A s.heap [(q6, .inr (6, df6))] H _ := Y
  refine lv_dup hx hb dL_law_3 rfl ?_
  refine z_callJ (wc1 := fun a => k6 a cI cZ (in0, in1, in2, in3, in4, in5)) (ws2 := fun a => k6 a cI cZ (in0, in1, in2, in3, in4, in5)) C Y (ci_X6 l q6 H.size) zPc6_blind (fun U hU hW => ⟨rfl, by rw [hU], by rw [hU]; exact Y.1, va_K.moved hW.alike hK, Y.2.1.weaken (fun _ _ _ _ => trivial), zNls_warm hW hNl⟩) (zFr.self _ _) (cwI 0 hts gL_law_X6_init rfl rfl rfl (hts (.initialized RX6) (by decide +kernel)) (hts (.methodLink RL 76 yX6_init) (by decide +kernel)) (hts (.instanceMethod yX6_init) (by decide +kernel)) rfl (by decide +kernel) ⟨Nat.le_of_ble_eq_true rfl, Nat.le_of_ble_eq_true rfl⟩) hl.1 rfl (Nat.le_of_ble_eq_true rfl) dL_law_4 ⟨Nat.le_of_ble_eq_true rfl, Nat.le_of_ble_eq_true rfl⟩ (fun a1 H locs Y ha1 => ?_)
  refine lv_astore_n (lv' := [(1, .ref q6), (0, .ref b)]) hx hb dL_law_7 rfl hl (by decide) rfl (fun ls hl => ?_)
  refine z_new C Y (ci := 7) (fs := df7) inlX7 tyX7 tyX7_ok (by decide +kernel) (by decide +kernel) (by decide +kernel) rfl hdf7 (Nat.le_of_ble_eq_true rfl) (Nat.le_of_ble_eq_true rfl) dL_law_8 (fun q7 H Y => ?_)
  have Y : zDy D A s.heap (k6 a1 cI cZ (in0, in1, in2, in3, in4, in5) ++ [(q7, .inr (7, df7))]) H locs := Y
  refine lv_dup hx hb dL_law_11 rfl ?_
  have hF7 : zFr (k6 a1 cI cZ (in0, in1, in2, in3, in4, in5) ++ [(q7, .inr (7, df7))]) [(q7, .inr (7, df7))] (fun a => wl7 a cI cZ in7) (fun a => k6 a1 cI cZ (in0, in1, in2, in3, in4, in5) ++ wl7 a cI cZ in7) := zFr.of (wr := k6 a1 cI cZ (in0, in1, in2, in3, in4, in5)) [38] [0, 1, 2, 3, 4, 5, 6, 7, 8, 9, 10, 11, 12, 13, 14, 15, 16, 17, 18, 19, 20, 21, 22, 23, 24, 25, 26, 27, 28, 29, 30, 31, 32, 33, 34, 35, 36, 37] [0, 1, 2, 3, 4, 5, 6, 7, 8, 9, 10, 11, 12, 13, 14, 15, 16, 17, 18, 19, 20, 21, 22, 23, 24, 25, 26, 27, 28, 29, 30, 31, 32, 33, 34, 35, 36, 37, 38, 39, 40, 41, 42, 43, 44, 45, 46, 47, 48, 49, 50, 51, 52, 53, 54, 55, 56, 57, 58, 59, 60, 61, 62, 63, 64] rfl rfl rfl rfl (by decide) rfl (fun _ => rfl) (fun _ => rfl) rfl
  refine z_callJ (wc1 := fun a => wl7 a cI cZ in7) (ws2 := fun a => k6 a1 cI cZ (in0, in1, in2, in3, in4, in5) ++ wl7 a cI cZ in7) C Y (ci_X7 l q7 H.size) zPc_blind (z_pre C Y hF7) hF7 (cwI 0 hts gL_law_X7_init rfl rfl rfl (hts (.initialized RX7) (by decide +kernel)) (hts (.methodLink RL 79 yX7_init) (by decide +kernel)) (hts (.instanceMethod yX7_init) (by decide +kernel)) rfl (by decide +kernel) ⟨Nat.le_of_ble_eq_true rfl, Nat.le_of_ble_eq_true rfl⟩) hl.1 rfl (Nat.le_of_ble_eq_true rfl) dL_law_12 ⟨Nat.le_of_ble_eq_true rfl, Nat.le_of_ble_eq_true rfl⟩ (fun a7 H7 locs7 Y7 ha7 => ?_)
  refine lv_astore_n (lv' := [(2, .ref q7), (1, .ref q6), (0, .ref b)]) hx hb dL_law_15 rfl hl (by decide) rfl (fun ls hl => ?_)
  refine lv_iconst (v := 1) hx hb dL_law_16 (by decide) ?_
  refine z_newJ (N := 1) C Y7 (by decide +kernel) (by decide) (by decide) (by decide) (Nat.le_of_ble_eq_true rfl) (Nat.le_of_ble_eq_true rfl) dL_law_17 (fun q8 H8 Y8 => ?_)
  refine lv_astore_n (lv' := [(3, .ref q8), (2, .ref q7), (1, .ref q6), (0, .ref b)]) hx hb dL_law_19 rfl hl (by decide) rfl (fun ls hl => ?_)
  refine lv_iconst (v := 0) hx hb dL_law_20 (by decide) ?_
  refine lv_istore (lv' := [(4, .int 0), (3, .ref q8), (2, .ref q7), (1, .ref q6), (0, .ref b)]) hx hb dL_law_21 hl (by decide) rfl (fun ls hl => ?_)
  subst ha1
  subst ha7
  have Yk : zDy D A s.heap (kl (fun c k => if c = 7 then a7 7 k else if c = 8 then q8 else a1 c k) cI cZ cJ (in0, in1, in2, in3, in4, in5, in7, fun _ => 0)) H8 locs7 := ⟨Y8.1.sub [0, 1, 2, 3, 4, 5, 6, 7, 8, 9, 10, 11, 12, 13, 14, 15, 16, 17, 18, 19, 20, 21, 22, 23, 24, 25, 26, 27, 28, 29, 30, 31, 32, 33, 34, 35, 36, 37, 65, 38, 39, 40, 41, 42, 43, 44, 45, 46, 47, 48, 49, 50, 51, 52, 53, 54, 55, 56, 57, 58, 59, 60, 61, 62, 63, 64] rfl, Y8.2.1.sub [0, 1, 2, 3, 4, 5, 6, 7, 8, 9, 10, 11, 12, 13, 14, 15, 16, 17, 18, 19, 20, 21, 22, 23, 24, 25, 26, 27, 28, 29, 30, 31, 32, 33, 34, 35, 36, 37, 65, 38, 39, 40, 41, 42, 43, 44, 45, 46, 47, 48, 49, 50, 51, 52, 53, 54, 55, 56, 57, 58, 59, 60, 61, 62, 63, 64] rfl rfl, Y8.2.2⟩
  have hl : lv_has ls 7 [(0, .ref b), (1, .ref ((fun c k => if c = 7 then a7 7 k else if c = 8 then q8 else a1 c k : Nat → Nat → Nat) 6 99)), (2, .ref ((fun c k => if c = 7 then a7 7 k else if c = 8 then q8 else a1 c k : Nat → Nat → Nat) 7 99)), (3, .ref ((fun c k => if c = 7 then a7 7 k else if c = 8 then q8 else a1 c k : Nat → Nat → Nat) 8 0)), (4, .int 0)] := lv_sub hl [4, 3, 2, 1, 0] rfl
  generalize (fun c k => if c = 7 then a7 7 k else if c = 8 then q8 else a1 c k : Nat → Nat → Nat) = a at Yk hl
  have hret : ∀ {pc : Nat} {H : Heap} {locs : List Loc} {ls : Array Slot} {cs sl : Nat} {u0 : zSt} {u1 : zSt} {u2 : zSt} {u3 : zSt} {u4 : zSt} {u5 : zSt} {u7 : zSt} {u8 : (Nat → Int64)}, zDy D A s.heap (kl a cI cZ cJ (u0, u1, u2, u3, u4, u5, u7, u8)) H locs → (cs ≤ 601024 ∧ sl ≤ 7293034) → decode cL_law pc = .ok (.ireturn, 1) → W p l e room_1 s m #[Value.ref b] below meth c H locs cs sl (lw_Z below #[Value.ref b] s) (F0 m pc ls [.int 1]) := by
    intro pc H locs ls cs sl u0 u1 u2 u3 u4 u5 u7 u8 Y hc hd
    refine va_forget (fun q hq => by have h9 := Y.2.2.2.2 q hq; rw [← hAe] at h9; exact h9) ?_
    refine W.widen (k := 601024) (n := 7293034) hc.1 hc.2 ?_
    exact lw_ret hx hb hr hlocks hd
  have key : ∀ n : Nat, ∀ (x4 : Int32) (cs sl : Nat) (u0 : zSt) (u1 : zSt) (u2 : zSt) (u3 : zSt) (u4 : zSt) (u5 : zSt) (u7 : zSt) (u8 : (Nat → Int64)) (H : Heap) (locs : List Loc) (ls : Array Slot), I n x4 cs sl u0 u1 u2 u3 u4 u5 u7 u8 → zDy D A s.heap (kl a cI cZ cJ (u0, u1, u2, u3, u4, u5, u7, u8)) H locs → lv_has ls 7 [(0, .ref b), (1, .ref (a 6 99)), (2, .ref (a 7 99)), (3, .ref (a 8 0)), (4, .int x4)] → W p l e room_1 s m #[Value.ref b] below meth c H locs cs sl (lw_Z below #[Value.ref b] s) (F0 m 23 ls []) := by
    intro n
    induction n using Nat.strongRecOn with
    | _ n ih =>
      intro x4 cs sl u0 u1 u2 u3 u4 u5 u7 u8 H locs ls hi Y hl
      exact bk_L_law_23 C Y hl hlt hX hXs hbl hbA hret (fun y4 cs sl u0 u1 u2 u3 u4 u5 u7 u8 H locs ls hj Y hl => by obtain ⟨k, hk, hi⟩ := hj; exact ih k hk y4 cs sl u0 u1 u2 u3 u4 u5 u7 u8 H locs ls hi Y hl) (hI n x4 cs sl u0 u1 u2 u3 u4 u5 u7 u8 hi)
  exact key n0 0 66 10659 in0 in1 in2 in3 in4 in5 in7 (fun _ => 0) H8 locs7 ls hI0 Yk hl

