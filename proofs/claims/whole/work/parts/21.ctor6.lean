section ZI6
variable {p : Program} {l : Launch} {e : Env} {R : Room} {s : State} {m : MethodId} {args : Array Value} {below : List Frame} {meth : Method} {c : Code} {H : Heap} {locs : List Loc} {cells slots : Nat} {Q : State → Prop} {cc : ByteArray} {nL : Nat} {own : String} {Ts : List Cond} {D : va_G} {cI cZ cJ : ClassId} {A : Nat → Prop} {ws ws1 : va_W} {pc : Nat} {ls : Array Slot} {rest : List Value} {ad q0 : Nat}
theorem z_new (C : zCx p s m args c cc nL own Ts D cI cZ cJ A) (Y : zDy D A s.heap ws H locs) {Cn : String} {T : u_T} {N ci index : Nat} {fs : List Value} (hin : ∀ w ∈ u_ws Cn T N, w ∈ Ts) (ty : Nat → FieldType) (hty : ∀ k, k < N → parseFieldDescriptor (T k).2.2.1 = some (ty k)) (hcl : Cond.classLink own index Cn ∈ Ts) (hinst : Cond.instantiable Cn N ∈ Ts) (hini : Cond.initialized Cn ∈ Ts) (hc : vwCl[ci]? = some (Cn, T, N)) (hfs : ∀ j, j < N → defaultValue (ty j) = vp_V fs j) (hcells : cells + 1 ≤ R.cells) (hslots : slots + N ≤ R.slots) (hd : decode cc pc = .ok (.new index, 3))
    (kk : ∀ (q : Nat) (H1 : Heap), zDy D A s.heap (ws ++ [(q, .inr (ci, fs))]) H1 locs → W p l e R s m args below meth c H1 locs (cells + 1) (slots + N) Q (F0 m (pc + 3) ls (.ref q :: rest))) : W p l e R s m args below meth c H locs cells slots Q (F0 m pc ls rest) :=
  va_new C.1 C.2.1 C.2.2.2.2.1 hin ty hty C.2.2.2.1 (C.2.2.2.2.1 _ hcl) (C.2.2.2.2.1 _ hinst) (C.2.2.2.2.1 _ hini) C.2.2.2.2.2.1 Y.1 Y.2.1 Y.2.2 C.2.2.2.2.2.2 hc hfs hcells hslots hd (fun q H1 a b d => kk q H1 ⟨a, b, d⟩)
section ZC
variable {S : Type} {wc : va_W} {wc1 ws2 : S → va_W} {y : MethodName} {wsY : List Cond} {rm : Room} {host : String} {index maxL mc ms b : Nat} {bytes : ByteArray} {st0 : List Value} {Pc : Array Value → State → Prop}
theorem z_callN {Q1 : S → Prop} (C : zCx p s m args c cc nL own Ts D cI cZ cJ A) (Y : zDy D A s.heap ws H locs) (hM : ∀ sz : Nat, Met l y wsY rm (zPc D cI cZ cJ [.ref b] wc sz) (va_Qv Q1 (zAt D cI cZ cJ wc sz wc1) (va_A wc sz)) mc ms (va_A wc sz)) (hF : zFr ws wc wc1 ws2) (cw : va_CN R s args own index y host bytes maxL none wsY rm mc ms 0 ∧ y.name = "<init>" ∧ (Cond.instanceMethod y).before args s = true)
    (hls : ls.size = nL) (hst : st0 = .ref b :: rest) (hW : (rest.map fun v => v.category).sum ≤ 8) (hd : decode cc pc = .ok (.invokespecial index, 3)) (hf : cells + mc ≤ R.cells ∧ slots + ms ≤ R.slots)
    (kk : ∀ (u : S) (H1 : Heap) (locs1 : List Loc), zDy D A s.heap (ws2 u) H1 locs1 → Q1 u → W p l e R s m args below meth c H1 locs1 (cells + mc) (slots + ms) Q (F0 m (pc + 3) ls rest)) : W p l e R s m args below meth c H locs cells slots Q (F0 m pc ls st0) := by
  have hFc := hF.2.2.1 A s.heap H locs Y.2.1 Y.2.2 C.2.2.2.2.2.2
  refine va_callv (va_runIN (As := []) (rest := rest) ⟨C.1, C.2.1, C.2.2.1, C.2.2.2.1, C.2.2.2.2.1⟩ (hM H.size) cw ⟨zPc_blind, z_pre C Y hF⟩ rfl rfl hls hst (lv_room hW) hd hf) Y.2.2 (fun q _ h => hFc q h) hFc (fun u t H1 locs1 ht hvm hw hB hz1 hk1 hS => ?_)
  obtain ⟨hP1, hK1, hD1⟩ := hB
  rw [ht] at hP1
  obtain ⟨hP2, hD2⟩ := hF.2.2.2 D A H H1 u Y.1 Y.2.1 hk1 hFc hP1 hD1
  exact kk u H1 locs1 ⟨hP2, hD2, hS⟩ hw
theorem z_callI {Q1 : S → Prop} (C : zCx p s m args c cc nL own Ts D cI cZ cJ A) (Y : zDy D A s.heap ws H locs) (hM : ∀ sz : Nat, Met l y wsY rm Pc (va_Qv Q1 (zAt D cI cZ cJ wc sz wc1) (va_A wc sz)) mc ms (va_A wc sz)) (hbl : FrameBlind Pc) (hpr : ∀ U : State, U.heap = H → s.WarmedH U.vm → Pc #[.ref b] U) (hF : zFr ws wc wc1 ws2) (cw : CallB R s args own index y bytes maxL none wsY rm mc ms 0 ∧ y.name = "<init>" ∧ (Cond.instanceMethod y).before args s = true)
    (hls : ls.size = nL) (hst : st0 = .ref b :: rest) (hW : (rest.map fun v => v.category).sum ≤ 8) (hd : decode cc pc = .ok (.invokespecial index, 3)) (hf : cells + mc ≤ R.cells ∧ slots + ms ≤ R.slots)
    (kk : ∀ (u : S) (H1 : Heap) (locs1 : List Loc), zDy D A s.heap (ws2 u) H1 locs1 → Q1 u → W p l e R s m args below meth c H1 locs1 (cells + mc) (slots + ms) Q (F0 m (pc + 3) ls rest)) : W p l e R s m args below meth c H locs cells slots Q (F0 m pc ls st0) := by
  have hFc := hF.2.2.1 A s.heap H locs Y.2.1 Y.2.2 C.2.2.2.2.2.2
  refine va_callv (va_runI (As := []) (rest := rest) ⟨C.1, C.2.1, C.2.2.1, C.2.2.2.1, C.2.2.2.2.1⟩ (hM H.size) cw ⟨hbl, hpr⟩ rfl rfl hls hst (lv_room hW) hd hf) Y.2.2 (fun q _ h => hFc q h) hFc (fun u t H1 locs1 ht hvm hw hB hz1 hk1 hS => ?_)
  obtain ⟨hP1, hK1, hD1⟩ := hB
  rw [ht] at hP1
  obtain ⟨hP2, hD2⟩ := hF.2.2.2 D A H H1 u Y.1 Y.2.1 hk1 hFc hP1 hD1
  exact kk u H1 locs1 ⟨hP2, hD2, hS⟩ hw
end ZC
end ZI6

def zNls : List Cond := [.methodLinkNest RX6 9 yX1_init "PencilWorks", .methodLinkNest RX6 18 yX3_init "PencilWorks", .methodLinkNest RX6 25 yX5_init "PencilWorks", .methodLinkNest RX6 32 yX0_init "PencilWorks", .methodLinkNest RX6 39 yX2_init "PencilWorks", .methodLinkNest RX6 46 yX4_init "PencilWorks"]
theorem zNls_warm {s U : State} (hW : s.WarmedH U.vm) (h : ∀ w ∈ zNls, va_Nw w s) : ∀ w ∈ zNls, va_Nw w U := by
  intro w hw
  have h1 := h w hw
  simp only [zNls, List.mem_cons, List.not_mem_nil, or_false] at hw
  rcases hw with rfl | rfl | rfl | rfl | rfl | rfl
  all_goals exact va_Nw.warmM hW h1
def zPc6 (D : va_G) (cI cZ cJ : ClassId) (av : List Value) (w0 : va_W) (sz : Nat) : Array Value → State → Prop := va_Pc av (fun U => U.heap.size = sz ∧ va_P D vwCl w0 U.heap ∧ va_K D vwCl (zTy cI cZ cJ) U ∧ va_D (fun _ => True) w0 ∧ ∀ w ∈ zNls, va_Nw w U)
theorem zPc6_blind {D : va_G} {cI cZ cJ : ClassId} {av : List Value} {w0 : va_W} {sz : Nat} : FrameBlind (zPc6 D cI cZ cJ av w0 sz) := fun a U g mk q => by
  obtain ⟨q0, q1, qP, qK, qD, qX⟩ := q
  exact ⟨q0, q1, qP, va_K.moved (u := U) (U := U.calling g mk a) (Vm.Alike.refl U.vm) qK, qD, zNls_warm (s := U) (U := U.calling g mk a) (State.WarmedH.refl U) qX⟩
def df6 : List Value := [.null, .null, .null, .null, .null, .null]
theorem in_X6_init_6 : ∀ w ∈ wsX60, w ∈ wsX6_init := by decide +kernel
theorem in_X6_init_1 : ∀ w ∈ wsX10, w ∈ wsX6_init := by decide +kernel
theorem in_X6_init_3 : ∀ w ∈ wsX30, w ∈ wsX6_init := by decide +kernel
theorem in_X6_init_5 : ∀ w ∈ wsX50, w ∈ wsX6_init := by decide +kernel
theorem in_X6_init_0 : ∀ w ∈ wsX00, w ∈ wsX6_init := by decide +kernel
theorem in_X6_init_2 : ∀ w ∈ wsX20, w ∈ wsX6_init := by decide +kernel
theorem in_X6_init_4 : ∀ w ∈ wsX40, w ∈ wsX6_init := by decide +kernel
theorem fl_X6_init_10 : Cond.fieldLink RX6 10 (TX6 0).1 (TX6 0).2.1 (TX6 0).2.2.1 ∈ wsX6_init := by decide +kernel
theorem fl_X6_init_19 : Cond.fieldLink RX6 19 (TX6 1).1 (TX6 1).2.1 (TX6 1).2.2.1 ∈ wsX6_init := by decide +kernel
theorem fl_X6_init_26 : Cond.fieldLink RX6 26 (TX6 2).1 (TX6 2).2.1 (TX6 2).2.2.1 ∈ wsX6_init := by decide +kernel
theorem fl_X6_init_33 : Cond.fieldLink RX6 33 (TX6 3).1 (TX6 3).2.1 (TX6 3).2.2.1 ∈ wsX6_init := by decide +kernel
theorem fl_X6_init_40 : Cond.fieldLink RX6 40 (TX6 4).1 (TX6 4).2.1 (TX6 4).2.2.1 ∈ wsX6_init := by decide +kernel
theorem fl_X6_init_47 : Cond.fieldLink RX6 47 (TX6 5).1 (TX6 5).2.1 (TX6 5).2.2.1 ∈ wsX6_init := by decide +kernel
theorem hdf1 : ∀ j, j < 16 → defaultValue (tyX1 j) = vp_V df1 j := by decide +kernel
theorem hdf3 : ∀ j, j < 9 → defaultValue (tyX3 j) = vp_V df3 j := by decide +kernel
theorem hdf5 : ∀ j, j < 6 → defaultValue (tyX5 j) = vp_V df5 j := by decide +kernel
theorem hdf0 : ∀ j, j < 5 → defaultValue (tyX0 j) = vp_V df0 j := by decide +kernel
theorem hdf2 : ∀ j, j < 7 → defaultValue (tyX2 j) = vp_V df2 j := by decide +kernel
theorem hdf4 : ∀ j, j < 7 → defaultValue (tyX4 j) = vp_V df4 j := by decide +kernel
theorem hdf7 : ∀ j, j < 42 → defaultValue (tyX7 j) = vp_V df7 j := by decide +kernel
theorem hdf6 : ∀ j, j < 6 → defaultValue (tyX6 j) = vp_V df6 j := by decide +kernel
set_option maxHeartbeats 8000000 in
set_option maxRecDepth 100000 in
theorem ci_X6 (l : Launch) {D : va_G} {cI cZ cJ : ClassId} (h : Nat) : ∀ sz : Nat, Met l yX6_init wsX6_init ({ frames := 2, cells := 37, slots := 2736, locals := 32 } : Room) (zPc6 D cI cZ cJ [.ref h] [(h, .inr (6, df6))] sz) (va_Qv (fun a : Nat → Nat → Nat => a 6 99 = h) (zAt D cI cZ cJ [(h, .inr (6, df6))] sz (fun a => k6 a cI cZ (in0, in1, in2, in3, in4, in5))) (va_A [(h, .inr (6, df6))] sz)) 37 2736 (va_A [(h, .inr (6, df6))] sz) := by
  intro sz
  refine Met.ofW (cc := cX6_init) (maxL := 1) (ret := none) (by decide) rfl ?_
  intro p e s m args below meth c s₁ B hml hv
  obtain ⟨rfl, hsz, hP, hK, hD0, hNl⟩ := hv
  subst hsz
  have hts := atoms_spec (ws := wsX6_init) B.pre
  have hown : s.vm.findClass RX6 = some m.cls := findClass_of_methodNamed B.named
  have hini : meth.name = "<init>" := (name_of_methodNamed B.named B.method).1
  have hl := lv_entry [.ref h] (n := 1) (Nat.le_of_ble_eq_true rfl)
  rw [lg_entry_eq]
  generalize (lg_sl [.ref h] ++ List.replicate (1 - (lg_sl [.ref h]).length) Slot.unset).toArray = ls at hl ⊢
  have hl : lv_has ls 1 [(0, .ref h)] := hl
  generalize hAe : va_A [(h, .inr (6, df6))] s.heap.size = A
  have C : zCx p s m #[.ref h] c cX6_init 1 RX6 wsX6_init D cI cZ cJ A := ⟨B.exec, B.bytes, hml, hown, hts, hK, fun q h => by rw [← hAe]; exact Or.inr h⟩
  have Y : zDy D A s.heap [(h, .inr (6, df6))] s.heap [] := ⟨hP, by rw [← hAe]; exact hD0.self, va_S.rf⟩
  obtain ⟨hx, hb, hml, hown, hts, hK, hA⟩ := id C
  refine lv_aload_n hx hb dX6_init_0 rfl (lv_at hl 0 rfl) ?_
  refine W.objInit hx hb hown (hts (.methodLink RX6 1 objectInit) (by decide +kernel)) (hts (.instanceMethod objectInit) (by decide +kernel)) (hts _ (by decide +kernel)) rfl (by rw [hml]; exact hl.1) rfl dX6_init_1 (Nat.le_of_ble_eq_true rfl) (Nat.le_of_ble_eq_true rfl) ?_
  refine W.eq (g2 := F0 m 4 ls []) rfl ?_
  refine lv_aload_n hx hb dX6_init_4 rfl (lv_at hl 0 rfl) ?_
  refine z_new C Y (ci := 1) (fs := df1) in_X6_init_1 tyX1 tyX1_ok (by decide +kernel) (by decide +kernel) (by decide +kernel) rfl hdf1 (Nat.le_of_ble_eq_true rfl) (Nat.le_of_ble_eq_true rfl) dX6_init_5 (fun q1 H Y => ?_)
  have Y : zDy D A s.heap ([(h, .inr (6, [.null, .null, .null, .null, .null, .null]))] ++ ([(q1, .inr (1, df1))])) H _ := Y
  refine lv_dup hx hb dX6_init_8 rfl ?_
  refine z_callN (host := "PencilWorks") (wc1 := fun a => wl1 a cI cZ in1) (ws2 := fun a1 => ([(h, .inr (6, [.null, .null, .null, .null, .null, .null]))] ++ (wl1 a1 cI cZ in1))) C Y (ci_X1 l q1) (zFr.of (wr := ([(h, .inr (6, [.null, .null, .null, .null, .null, .null]))])) [1] [0] [0, 1, 2, 3, 4, 5, 6, 7, 8, 9, 10, 11] rfl rfl rfl rfl (by decide) rfl (fun _ => rfl) (fun _ => rfl) rfl) ⟨va_cnB 0 hts gX6_init_X1_init_n9 rfl rfl rfl (hNl (.methodLinkNest RX6 9 yX1_init "PencilWorks") (by decide +kernel)) (hts (.initialized RX1) (by decide +kernel)) (by decide +kernel) ⟨Nat.le_of_ble_eq_true rfl, Nat.le_of_ble_eq_true rfl⟩, rfl, hts (.instanceMethod yX1_init) (by decide +kernel)⟩ hl.1 rfl (Nat.le_of_ble_eq_true rfl) dX6_init_9 ⟨Nat.le_of_ble_eq_true rfl, Nat.le_of_ble_eq_true rfl⟩ (fun a1 H locs Y ha1 => ?_)
  refine z_putR C Y hini (Cn := RX6) (T := TX6) (N := 6) in_X6_init_6 rfl tyX6 tyX6_ok nmX6 (q0 := 0) rfl 0 (by decide) fl_X6_init_10 rfl rfl (ty := .object "PencilWorks$Earths") (by decide +kernel) rfl rfl (Nat.le_of_ble_eq_true rfl) rfl dX6_init_12 (fun H locs Y => ?_)
  have Y : zDy D A s.heap ([(h, .inr (6, [.ref q1, .null, .null, .null, .null, .null]))] ++ (wl1 a1 cI cZ in1)) H locs := Y
  refine lv_aload_n hx hb dX6_init_15 rfl (lv_at hl 0 rfl) ?_
  refine z_new C Y (ci := 3) (fs := df3) in_X6_init_3 tyX3 tyX3_ok (by decide +kernel) (by decide +kernel) (by decide +kernel) rfl hdf3 (Nat.le_of_ble_eq_true rfl) (Nat.le_of_ble_eq_true rfl) dX6_init_16 (fun q3 H Y => ?_)
  have Y : zDy D A s.heap ([(h, .inr (6, [.ref q1, .null, .null, .null, .null, .null]))] ++ (wl1 a1 cI cZ in1 ++ ([(q3, .inr (3, df3))]))) H _ := Y
  refine lv_dup hx hb dX6_init_19 rfl ?_
  refine z_callN (host := "PencilWorks") (wc1 := fun a => wl3 a cI cZ in3) (ws2 := fun a3 => ([(h, .inr (6, [.ref q1, .null, .null, .null, .null, .null]))] ++ (wl1 a1 cI cZ in1 ++ (wl3 a3 cI cZ in3)))) C Y (ci_X3 l q3) (zFr.of (wr := ([(h, .inr (6, [.ref q1, .null, .null, .null, .null, .null]))] ++ (wl1 a1 cI cZ in1))) [12] [0, 1, 2, 3, 4, 5, 6, 7, 8, 9, 10, 11] [0, 1, 2, 3, 4, 5, 6, 7, 8, 9, 10, 11, 12, 13, 14, 15, 16, 17, 18] rfl rfl rfl rfl (by decide) rfl (fun _ => rfl) (fun _ => rfl) rfl) ⟨va_cnB 0 hts gX6_init_X3_init_n18 rfl rfl rfl (hNl (.methodLinkNest RX6 18 yX3_init "PencilWorks") (by decide +kernel)) (hts (.initialized RX3) (by decide +kernel)) (by decide +kernel) ⟨Nat.le_of_ble_eq_true rfl, Nat.le_of_ble_eq_true rfl⟩, rfl, hts (.instanceMethod yX3_init) (by decide +kernel)⟩ hl.1 rfl (Nat.le_of_ble_eq_true rfl) dX6_init_20 ⟨Nat.le_of_ble_eq_true rfl, Nat.le_of_ble_eq_true rfl⟩ (fun a3 H locs Y ha3 => ?_)
  refine z_putR C Y hini (Cn := RX6) (T := TX6) (N := 6) in_X6_init_6 rfl tyX6 tyX6_ok nmX6 (q0 := 0) rfl 1 (by decide) fl_X6_init_19 rfl rfl (ty := .object "PencilWorks$Lots") (by decide +kernel) rfl rfl (Nat.le_of_ble_eq_true rfl) rfl dX6_init_23 (fun H locs Y => ?_)
  have Y : zDy D A s.heap ([(h, .inr (6, [.ref q1, .ref q3, .null, .null, .null, .null]))] ++ (wl1 a1 cI cZ in1 ++ (wl3 a3 cI cZ in3))) H locs := Y
  refine lv_aload_n hx hb dX6_init_26 rfl (lv_at hl 0 rfl) ?_
  refine z_new C Y (ci := 5) (fs := df5) in_X6_init_5 tyX5 tyX5_ok (by decide +kernel) (by decide +kernel) (by decide +kernel) rfl hdf5 (Nat.le_of_ble_eq_true rfl) (Nat.le_of_ble_eq_true rfl) dX6_init_27 (fun q5 H Y => ?_)
  have Y : zDy D A s.heap ([(h, .inr (6, [.ref q1, .ref q3, .null, .null, .null, .null]))] ++ (wl1 a1 cI cZ in1 ++ (wl3 a3 cI cZ in3 ++ ([(q5, .inr (5, df5))])))) H _ := Y
  refine lv_dup hx hb dX6_init_30 rfl ?_
  refine z_callN (host := "PencilWorks") (wc1 := fun a => wl5 a cI cZ in5) (ws2 := fun a5 => ([(h, .inr (6, [.ref q1, .ref q3, .null, .null, .null, .null]))] ++ (wl1 a1 cI cZ in1 ++ (wl3 a3 cI cZ in3 ++ (wl5 a5 cI cZ in5))))) C Y (ci_X5 l q5) (zFr.of (wr := ([(h, .inr (6, [.ref q1, .ref q3, .null, .null, .null, .null]))] ++ (wl1 a1 cI cZ in1 ++ (wl3 a3 cI cZ in3)))) [19] [0, 1, 2, 3, 4, 5, 6, 7, 8, 9, 10, 11, 12, 13, 14, 15, 16, 17, 18] [0, 1, 2, 3, 4, 5, 6, 7, 8, 9, 10, 11, 12, 13, 14, 15, 16, 17, 18, 19, 20, 21, 22, 23] rfl rfl rfl rfl (by decide) rfl (fun _ => rfl) (fun _ => rfl) rfl) ⟨va_cnB 0 hts gX6_init_X5_init_n25 rfl rfl rfl (hNl (.methodLinkNest RX6 25 yX5_init "PencilWorks") (by decide +kernel)) (hts (.initialized RX5) (by decide +kernel)) (by decide +kernel) ⟨Nat.le_of_ble_eq_true rfl, Nat.le_of_ble_eq_true rfl⟩, rfl, hts (.instanceMethod yX5_init) (by decide +kernel)⟩ hl.1 rfl (Nat.le_of_ble_eq_true rfl) dX6_init_31 ⟨Nat.le_of_ble_eq_true rfl, Nat.le_of_ble_eq_true rfl⟩ (fun a5 H locs Y ha5 => ?_)
  refine z_putR C Y hini (Cn := RX6) (T := TX6) (N := 6) in_X6_init_6 rfl tyX6 tyX6_ok nmX6 (q0 := 0) rfl 2 (by decide) fl_X6_init_26 rfl rfl (ty := .object "PencilWorks$Trials") (by decide +kernel) rfl rfl (Nat.le_of_ble_eq_true rfl) rfl dX6_init_34 (fun H locs Y => ?_)
  have Y : zDy D A s.heap ([(h, .inr (6, [.ref q1, .ref q3, .ref q5, .null, .null, .null]))] ++ (wl1 a1 cI cZ in1 ++ (wl3 a3 cI cZ in3 ++ (wl5 a5 cI cZ in5)))) H locs := Y
  refine lv_aload_n hx hb dX6_init_37 rfl (lv_at hl 0 rfl) ?_
  refine z_new C Y (ci := 0) (fs := df0) in_X6_init_0 tyX0 tyX0_ok (by decide +kernel) (by decide +kernel) (by decide +kernel) rfl hdf0 (Nat.le_of_ble_eq_true rfl) (Nat.le_of_ble_eq_true rfl) dX6_init_38 (fun q0 H Y => ?_)
  have Y : zDy D A s.heap ([(h, .inr (6, [.ref q1, .ref q3, .ref q5, .null, .null, .null]))] ++ (wl1 a1 cI cZ in1 ++ (wl3 a3 cI cZ in3 ++ (wl5 a5 cI cZ in5 ++ ([(q0, .inr (0, df0))]))))) H _ := Y
  refine lv_dup hx hb dX6_init_41 rfl ?_
  refine z_callN (host := "PencilWorks") (wc1 := fun a => wl0 a cI cZ in0) (ws2 := fun a0 => ([(h, .inr (6, [.ref q1, .ref q3, .ref q5, .null, .null, .null]))] ++ (wl1 a1 cI cZ in1 ++ (wl3 a3 cI cZ in3 ++ (wl5 a5 cI cZ in5 ++ (wl0 a0 cI cZ in0)))))) C Y (ci_X0 l q0) (zFr.of (wr := ([(h, .inr (6, [.ref q1, .ref q3, .ref q5, .null, .null, .null]))] ++ (wl1 a1 cI cZ in1 ++ (wl3 a3 cI cZ in3 ++ (wl5 a5 cI cZ in5))))) [24] [0, 1, 2, 3, 4, 5, 6, 7, 8, 9, 10, 11, 12, 13, 14, 15, 16, 17, 18, 19, 20, 21, 22, 23] [0, 1, 2, 3, 4, 5, 6, 7, 8, 9, 10, 11, 12, 13, 14, 15, 16, 17, 18, 19, 20, 21, 22, 23, 24, 25] rfl rfl rfl rfl (by decide) rfl (fun _ => rfl) (fun _ => rfl) rfl) ⟨va_cnB 0 hts gX6_init_X0_init_n32 rfl rfl rfl (hNl (.methodLinkNest RX6 32 yX0_init "PencilWorks") (by decide +kernel)) (hts (.initialized RX0) (by decide +kernel)) (by decide +kernel) ⟨Nat.le_of_ble_eq_true rfl, Nat.le_of_ble_eq_true rfl⟩, rfl, hts (.instanceMethod yX0_init) (by decide +kernel)⟩ hl.1 rfl (Nat.le_of_ble_eq_true rfl) dX6_init_42 ⟨Nat.le_of_ble_eq_true rfl, Nat.le_of_ble_eq_true rfl⟩ (fun a0 H locs Y ha0 => ?_)
  refine z_putR C Y hini (Cn := RX6) (T := TX6) (N := 6) in_X6_init_6 rfl tyX6 tyX6_ok nmX6 (q0 := 0) rfl 3 (by decide) fl_X6_init_33 rfl rfl (ty := .object "PencilWorks$Blame") (by decide +kernel) rfl rfl (Nat.le_of_ble_eq_true rfl) rfl dX6_init_45 (fun H locs Y => ?_)
  have Y : zDy D A s.heap ([(h, .inr (6, [.ref q1, .ref q3, .ref q5, .ref q0, .null, .null]))] ++ (wl1 a1 cI cZ in1 ++ (wl3 a3 cI cZ in3 ++ (wl5 a5 cI cZ in5 ++ (wl0 a0 cI cZ in0))))) H locs := Y
  refine lv_aload_n hx hb dX6_init_48 rfl (lv_at hl 0 rfl) ?_
  refine z_new C Y (ci := 2) (fs := df2) in_X6_init_2 tyX2 tyX2_ok (by decide +kernel) (by decide +kernel) (by decide +kernel) rfl hdf2 (Nat.le_of_ble_eq_true rfl) (Nat.le_of_ble_eq_true rfl) dX6_init_49 (fun q2 H Y => ?_)
  have Y : zDy D A s.heap ([(h, .inr (6, [.ref q1, .ref q3, .ref q5, .ref q0, .null, .null]))] ++ (wl1 a1 cI cZ in1 ++ (wl3 a3 cI cZ in3 ++ (wl5 a5 cI cZ in5 ++ (wl0 a0 cI cZ in0 ++ ([(q2, .inr (2, df2))])))))) H _ := Y
  refine lv_dup hx hb dX6_init_52 rfl ?_
  refine z_callN (host := "PencilWorks") (wc1 := fun a => wl2 a cI cZ in2) (ws2 := fun a2 => ([(h, .inr (6, [.ref q1, .ref q3, .ref q5, .ref q0, .null, .null]))] ++ (wl1 a1 cI cZ in1 ++ (wl3 a3 cI cZ in3 ++ (wl5 a5 cI cZ in5 ++ (wl0 a0 cI cZ in0 ++ (wl2 a2 cI cZ in2))))))) C Y (ci_X2 l q2) (zFr.of (wr := ([(h, .inr (6, [.ref q1, .ref q3, .ref q5, .ref q0, .null, .null]))] ++ (wl1 a1 cI cZ in1 ++ (wl3 a3 cI cZ in3 ++ (wl5 a5 cI cZ in5 ++ (wl0 a0 cI cZ in0)))))) [26] [0, 1, 2, 3, 4, 5, 6, 7, 8, 9, 10, 11, 12, 13, 14, 15, 16, 17, 18, 19, 20, 21, 22, 23, 24, 25] [0, 1, 2, 3, 4, 5, 6, 7, 8, 9, 10, 11, 12, 13, 14, 15, 16, 17, 18, 19, 20, 21, 22, 23, 24, 25, 26, 27, 28, 29, 30, 31] rfl rfl rfl rfl (by decide) rfl (fun _ => rfl) (fun _ => rfl) rfl) ⟨va_cnB 0 hts gX6_init_X2_init_n39 rfl rfl rfl (hNl (.methodLinkNest RX6 39 yX2_init "PencilWorks") (by decide +kernel)) (hts (.initialized RX2) (by decide +kernel)) (by decide +kernel) ⟨Nat.le_of_ble_eq_true rfl, Nat.le_of_ble_eq_true rfl⟩, rfl, hts (.instanceMethod yX2_init) (by decide +kernel)⟩ hl.1 rfl (Nat.le_of_ble_eq_true rfl) dX6_init_53 ⟨Nat.le_of_ble_eq_true rfl, Nat.le_of_ble_eq_true rfl⟩ (fun a2 H locs Y ha2 => ?_)
  refine z_putR C Y hini (Cn := RX6) (T := TX6) (N := 6) in_X6_init_6 rfl tyX6 tyX6_ok nmX6 (q0 := 0) rfl 4 (by decide) fl_X6_init_40 rfl rfl (ty := .object "PencilWorks$Grades") (by decide +kernel) rfl rfl (Nat.le_of_ble_eq_true rfl) rfl dX6_init_56 (fun H locs Y => ?_)
  have Y : zDy D A s.heap ([(h, .inr (6, [.ref q1, .ref q3, .ref q5, .ref q0, .ref q2, .null]))] ++ (wl1 a1 cI cZ in1 ++ (wl3 a3 cI cZ in3 ++ (wl5 a5 cI cZ in5 ++ (wl0 a0 cI cZ in0 ++ (wl2 a2 cI cZ in2)))))) H locs := Y
  refine lv_aload_n hx hb dX6_init_59 rfl (lv_at hl 0 rfl) ?_
  refine z_new C Y (ci := 4) (fs := df4) in_X6_init_4 tyX4 tyX4_ok (by decide +kernel) (by decide +kernel) (by decide +kernel) rfl hdf4 (Nat.le_of_ble_eq_true rfl) (Nat.le_of_ble_eq_true rfl) dX6_init_60 (fun q4 H Y => ?_)
  have Y : zDy D A s.heap ([(h, .inr (6, [.ref q1, .ref q3, .ref q5, .ref q0, .ref q2, .null]))] ++ (wl1 a1 cI cZ in1 ++ (wl3 a3 cI cZ in3 ++ (wl5 a5 cI cZ in5 ++ (wl0 a0 cI cZ in0 ++ (wl2 a2 cI cZ in2 ++ ([(q4, .inr (4, df4))]))))))) H _ := Y
  refine lv_dup hx hb dX6_init_63 rfl ?_
  refine z_callN (host := "PencilWorks") (wc1 := fun a => wl4 a cI cZ in4) (ws2 := fun a4 => ([(h, .inr (6, [.ref q1, .ref q3, .ref q5, .ref q0, .ref q2, .null]))] ++ (wl1 a1 cI cZ in1 ++ (wl3 a3 cI cZ in3 ++ (wl5 a5 cI cZ in5 ++ (wl0 a0 cI cZ in0 ++ (wl2 a2 cI cZ in2 ++ (wl4 a4 cI cZ in4)))))))) C Y (ci_X4 l q4) (zFr.of (wr := ([(h, .inr (6, [.ref q1, .ref q3, .ref q5, .ref q0, .ref q2, .null]))] ++ (wl1 a1 cI cZ in1 ++ (wl3 a3 cI cZ in3 ++ (wl5 a5 cI cZ in5 ++ (wl0 a0 cI cZ in0 ++ (wl2 a2 cI cZ in2))))))) [32] [0, 1, 2, 3, 4, 5, 6, 7, 8, 9, 10, 11, 12, 13, 14, 15, 16, 17, 18, 19, 20, 21, 22, 23, 24, 25, 26, 27, 28, 29, 30, 31] [0, 1, 2, 3, 4, 5, 6, 7, 8, 9, 10, 11, 12, 13, 14, 15, 16, 17, 18, 19, 20, 21, 22, 23, 24, 25, 26, 27, 28, 29, 30, 31, 32, 33, 34, 35, 36, 37] rfl rfl rfl rfl (by decide) rfl (fun _ => rfl) (fun _ => rfl) rfl) ⟨va_cnB 0 hts gX6_init_X4_init_n46 rfl rfl rfl (hNl (.methodLinkNest RX6 46 yX4_init "PencilWorks") (by decide +kernel)) (hts (.initialized RX4) (by decide +kernel)) (by decide +kernel) ⟨Nat.le_of_ble_eq_true rfl, Nat.le_of_ble_eq_true rfl⟩, rfl, hts (.instanceMethod yX4_init) (by decide +kernel)⟩ hl.1 rfl (Nat.le_of_ble_eq_true rfl) dX6_init_64 ⟨Nat.le_of_ble_eq_true rfl, Nat.le_of_ble_eq_true rfl⟩ (fun a4 H locs Y ha4 => ?_)
  refine z_putR C Y hini (Cn := RX6) (T := TX6) (N := 6) in_X6_init_6 rfl tyX6 tyX6_ok nmX6 (q0 := 0) rfl 5 (by decide) fl_X6_init_47 rfl rfl (ty := .object "PencilWorks$Machine") (by decide +kernel) rfl rfl (Nat.le_of_ble_eq_true rfl) rfl dX6_init_67 (fun H locs Y => ?_)
  have Y : zDy D A s.heap ([(h, .inr (6, [.ref q1, .ref q3, .ref q5, .ref q0, .ref q2, .ref q4]))] ++ (wl1 a1 cI cZ in1 ++ (wl3 a3 cI cZ in3 ++ (wl5 a5 cI cZ in5 ++ (wl0 a0 cI cZ in0 ++ (wl2 a2 cI cZ in2 ++ (wl4 a4 cI cZ in4))))))) H locs := Y
  subst ha1 ha3 ha5 ha0 ha2 ha4
  have Y : zDy D A s.heap (k6 (fun c k => if c = 1 then a1 1 k else if c = 3 then a3 3 k else if c = 5 then a5 5 k else if c = 0 then a0 0 k else if c = 2 then a2 2 k else if c = 4 then a4 4 k else h) cI cZ (in0, in1, in2, in3, in4, in5)) H locs := Y
  exact W.vret B.exec B.bytes B.returns (fun t ht hW => ⟨⟨(fun c k => if c = 1 then a1 1 k else if c = 3 then a3 3 k else if c = 5 then a5 5 k else if c = 0 then a0 0 k else if c = 2 then a2 2 k else if c = 4 then a4 4 k else h), rfl, rfl, by rw [ht]; exact Y.1, va_K.moved hW.alike hK, (by have h9 := Y.2.1; rw [← hAe] at h9; exact h9)⟩, Y.2.2.F ht⟩) Y.2.2.2.2 dX6_init_70 B.notSynchronized

