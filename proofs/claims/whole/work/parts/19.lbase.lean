def kw (a : Nat → Nat → Nat) (cI cZ cJ : ClassId) (u : zSt × zSt × zSt × zSt × zSt × zSt × (Nat → Int64)) : va_W := wl6 a ++ (wl1 a cI cZ u.2.1 ++ (wl3 a cI cZ u.2.2.2.1 ++ (wl5 a cI cZ u.2.2.2.2.2.1 ++ (wl0 a cI cZ u.1 ++ (wl2 a cI cZ u.2.2.1 ++ (wl4 a cI cZ u.2.2.2.2.1 ++ ([(a 8 0, .inl (cJ, 1, .inr (.inl u.2.2.2.2.2.2)))])))))))
theorem paw_8_0 (a : Nat → Nat → Nat) (cI cZ cJ : ClassId) (u0 : zSt) (u1 : zSt) (u2 : zSt) (u3 : zSt) (u4 : zSt) (u5 : zSt) (u8 : (Nat → Int64)) : (kw a cI cZ cJ (u0, u1, u2, u3, u4, u5, u8))[38]? = some (a 8 0, .inl (cJ, 1, .inr (.inl u8))) := rfl
theorem saw_8_0 (a : Nat → Nat → Nat) (cI cZ cJ : ClassId) (u0 : zSt) (u1 : zSt) (u2 : zSt) (u3 : zSt) (u4 : zSt) (u5 : zSt) (u8 : (Nat → Int64)) (f : Nat → Int64) : (kw a cI cZ cJ (u0, u1, u2, u3, u4, u5, u8)).set 38 (a 8 0, .inl (cJ, 1, .inr (.inl f))) = (kw a cI cZ cJ (u0, u1, u2, u3, u4, u5, f)) := rfl
def kl (a : Nat → Nat → Nat) (cI cZ cJ : ClassId) (u : zSt × zSt × zSt × zSt × zSt × zSt × zSt × (Nat → Int64)) : va_W := wl6 a ++ (wl1 a cI cZ u.2.1 ++ (wl3 a cI cZ u.2.2.2.1 ++ (wl5 a cI cZ u.2.2.2.2.2.1 ++ (wl0 a cI cZ u.1 ++ (wl2 a cI cZ u.2.2.1 ++ (wl4 a cI cZ u.2.2.2.2.1 ++ ([(a 8 0, .inl (cJ, 1, .inr (.inl u.2.2.2.2.2.2.2)))] ++ (wl7 a cI cZ u.2.2.2.2.2.2.1))))))))
theorem pal_8_0 (a : Nat → Nat → Nat) (cI cZ cJ : ClassId) (u0 : zSt) (u1 : zSt) (u2 : zSt) (u3 : zSt) (u4 : zSt) (u5 : zSt) (u7 : zSt) (u8 : (Nat → Int64)) : (kl a cI cZ cJ (u0, u1, u2, u3, u4, u5, u7, u8))[38]? = some (a 8 0, .inl (cJ, 1, .inr (.inl u8))) := rfl
theorem sal_8_0 (a : Nat → Nat → Nat) (cI cZ cJ : ClassId) (u0 : zSt) (u1 : zSt) (u2 : zSt) (u3 : zSt) (u4 : zSt) (u5 : zSt) (u7 : zSt) (u8 : (Nat → Int64)) (f : Nat → Int64) : (kl a cI cZ cJ (u0, u1, u2, u3, u4, u5, u7, u8)).set 38 (a 8 0, .inl (cJ, 1, .inr (.inl f))) = (kl a cI cZ cJ (u0, u1, u2, u3, u4, u5, u7, f)) := rfl
set_option maxRecDepth 20000 in
set_option maxHeartbeats 4000000 in
theorem frw_6 (a : Nat → Nat → Nat) (cI cZ cJ : ClassId) (u0 : zSt) (u1 : zSt) (u2 : zSt) (u3 : zSt) (u4 : zSt) (u5 : zSt) (u8 : (Nat → Int64)) : zFr (kw a cI cZ cJ (u0, u1, u2, u3, u4, u5, u8)) (k6 a cI cZ (u0, u1, u2, u3, u4, u5)) (fun u : zSt × zSt × zSt × zSt × zSt × zSt => k6 a cI cZ u) (fun u : zSt × zSt × zSt × zSt × zSt × zSt => (kw a cI cZ cJ (u.1, u.2.1, u.2.2.1, u.2.2.2.1, u.2.2.2.2.1, u.2.2.2.2.2, u8))) := zFr.of (wr := [(a 8 0, .inl (cJ, 1, .inr (.inl u8)))]) [0, 1, 2, 3, 4, 5, 6, 7, 8, 9, 10, 11, 12, 13, 14, 15, 16, 17, 18, 19, 20, 21, 22, 23, 24, 25, 26, 27, 28, 29, 30, 31, 32, 33, 34, 35, 36, 37] [38] [1, 2, 3, 4, 5, 6, 7, 8, 9, 10, 11, 12, 13, 14, 15, 16, 17, 18, 19, 20, 21, 22, 23, 24, 25, 26, 27, 28, 29, 30, 31, 32, 33, 34, 35, 36, 37, 38, 0] rfl rfl rfl rfl (by decide) rfl (fun _ => rfl) (fun _ => rfl) rfl
set_option maxRecDepth 20000 in
set_option maxHeartbeats 4000000 in
theorem frl_w (a : Nat → Nat → Nat) (cI cZ cJ : ClassId) (u0 : zSt) (u1 : zSt) (u2 : zSt) (u3 : zSt) (u4 : zSt) (u5 : zSt) (u7 : zSt) (u8 : (Nat → Int64)) : zFr (kl a cI cZ cJ (u0, u1, u2, u3, u4, u5, u7, u8)) (kw a cI cZ cJ (u0, u1, u2, u3, u4, u5, u8)) (fun u : zSt × zSt × zSt × zSt × zSt × zSt × (Nat → Int64) => kw a cI cZ cJ u) (fun u : zSt × zSt × zSt × zSt × zSt × zSt × (Nat → Int64) => (kl a cI cZ cJ (u.1, u.2.1, u.2.2.1, u.2.2.2.1, u.2.2.2.2.1, u.2.2.2.2.2.1, u7, u.2.2.2.2.2.2))) := zFr.of (wr := wl7 a cI cZ u7) [0, 1, 2, 3, 4, 5, 6, 7, 8, 9, 10, 11, 12, 13, 14, 15, 16, 17, 18, 19, 20, 21, 22, 23, 24, 25, 26, 27, 28, 29, 30, 31, 32, 33, 34, 35, 36, 37, 38] [39, 40, 41, 42, 43, 44, 45, 46, 47, 48, 49, 50, 51, 52, 53, 54, 55, 56, 57, 58, 59, 60, 61, 62, 63, 64, 65] [27, 28, 29, 30, 31, 32, 33, 34, 35, 36, 37, 38, 39, 40, 41, 42, 43, 44, 45, 46, 47, 48, 49, 50, 51, 52, 53, 54, 55, 56, 57, 58, 59, 60, 61, 62, 63, 64, 65, 0, 1, 2, 3, 4, 5, 6, 7, 8, 9, 10, 11, 12, 13, 14, 15, 16, 17, 18, 19, 20, 21, 22, 23, 24, 25, 26] rfl rfl rfl rfl (by decide) rfl (fun _ => rfl) (fun _ => rfl) rfl
set_option maxRecDepth 20000 in
set_option maxHeartbeats 4000000 in
theorem frl_7 (a : Nat → Nat → Nat) (cI cZ cJ : ClassId) (u0 : zSt) (u1 : zSt) (u2 : zSt) (u3 : zSt) (u4 : zSt) (u5 : zSt) (u7 : zSt) (u8 : (Nat → Int64)) : zFr (kl a cI cZ cJ (u0, u1, u2, u3, u4, u5, u7, u8)) (k7 a cI cZ u7) (fun u : zSt => k7 a cI cZ u) (fun u : zSt => (kl a cI cZ cJ (u0, u1, u2, u3, u4, u5, u, u8))) := zFr.of (wr := wl6 a ++ (wl1 a cI cZ u1 ++ (wl3 a cI cZ u3 ++ (wl5 a cI cZ u5 ++ (wl0 a cI cZ u0 ++ (wl2 a cI cZ u2 ++ (wl4 a cI cZ u4 ++ ([(a 8 0, .inl (cJ, 1, .inr (.inl u8)))])))))))) [39, 40, 41, 42, 43, 44, 45, 46, 47, 48, 49, 50, 51, 52, 53, 54, 55, 56, 57, 58, 59, 60, 61, 62, 63, 64, 65] [0, 1, 2, 3, 4, 5, 6, 7, 8, 9, 10, 11, 12, 13, 14, 15, 16, 17, 18, 19, 20, 21, 22, 23, 24, 25, 26, 27, 28, 29, 30, 31, 32, 33, 34, 35, 36, 37, 38] [0, 1, 2, 3, 4, 5, 6, 7, 8, 9, 10, 11, 12, 13, 14, 15, 16, 17, 18, 19, 20, 21, 22, 23, 24, 25, 26, 27, 28, 29, 30, 31, 32, 33, 34, 35, 36, 37, 38, 39, 40, 41, 42, 43, 44, 45, 46, 47, 48, 49, 50, 51, 52, 53, 54, 55, 56, 57, 58, 59, 60, 61, 62, 63, 64, 65] rfl rfl rfl rfl (by decide) rfl (fun _ => rfl) (fun _ => rfl) rfl
set_option maxRecDepth 20000 in
set_option maxHeartbeats 4000000 in
theorem frl_6 (a : Nat → Nat → Nat) (cI cZ cJ : ClassId) (u0 : zSt) (u1 : zSt) (u2 : zSt) (u3 : zSt) (u4 : zSt) (u5 : zSt) (u7 : zSt) (u8 : (Nat → Int64)) : zFr (kl a cI cZ cJ (u0, u1, u2, u3, u4, u5, u7, u8)) (k6 a cI cZ (u0, u1, u2, u3, u4, u5)) (fun u : zSt × zSt × zSt × zSt × zSt × zSt => k6 a cI cZ u) (fun u : zSt × zSt × zSt × zSt × zSt × zSt => (kl a cI cZ cJ (u.1, u.2.1, u.2.2.1, u.2.2.2.1, u.2.2.2.2.1, u.2.2.2.2.2, u7, u8))) := zFr.of (wr := [(a 8 0, .inl (cJ, 1, .inr (.inl u8)))] ++ (wl7 a cI cZ u7)) [0, 1, 2, 3, 4, 5, 6, 7, 8, 9, 10, 11, 12, 13, 14, 15, 16, 17, 18, 19, 20, 21, 22, 23, 24, 25, 26, 27, 28, 29, 30, 31, 32, 33, 34, 35, 36, 37] [38, 39, 40, 41, 42, 43, 44, 45, 46, 47, 48, 49, 50, 51, 52, 53, 54, 55, 56, 57, 58, 59, 60, 61, 62, 63, 64, 65] [28, 29, 30, 31, 32, 33, 34, 35, 36, 37, 38, 39, 40, 41, 42, 43, 44, 45, 46, 47, 48, 49, 50, 51, 52, 53, 54, 55, 56, 57, 58, 59, 60, 61, 62, 63, 64, 65, 0, 1, 2, 3, 4, 5, 6, 7, 8, 9, 10, 11, 12, 13, 14, 15, 16, 17, 18, 19, 20, 21, 22, 23, 24, 25, 26, 27] rfl rfl rfl rfl (by decide) rfl (fun _ => rfl) (fun _ => rfl) rfl
theorem z_in01 : vp_in 0 1 := vp_in_nI (n := 0) (by decide) (by decide)
section ZLJ
variable {p : Program} {l : Launch} {e : Env} {R : Room} {s : State} {m : MethodId} {args : Array Value} {below : List Frame} {meth : Method} {c : Code} {H : Heap} {locs : List Loc} {cells slots : Nat} {Q : State → Prop} {cc : ByteArray} {nL : Nat} {own : String} {Ts : List Cond} {D : va_G} {cI cZ cJ : ClassId} {A : Nat → Prop} {ws ws1 : va_W} {pc : Nat} {ls : Array Slot} {rest : List Value} {ad q0 : Nat}
theorem z_ldJ (C : zCx p s m args c cc nL own Ts D cI cZ cJ A) (Y : zDy D A s.heap ws H locs) {n : Nat} {f : Nat → Int64} (he : ws[q0]? = some (ad, .inl (cJ, n, .inr (.inl f)))) {i : Int32} (hin : vp_in i n) (hd : decode cc pc = .ok (.laload, 1))
    (kk : W p l e R s m args below meth c H locs cells slots Q (F0 m (pc + 1) ls (.long (f i.toNatClampNeg) :: rest))) : W p l e R s m args below meth c H locs cells slots Q (F0 m pc ls (.int i :: .ref ad :: rest)) :=
  va_lald C.1 C.2.1 C.2.2.2.2.2.1 Y.1 q0 2 he rfl hin hd kk
theorem z_stJ (C : zCx p s m args c cc nL own Ts D cI cZ cJ A) (Y : zDy D A s.heap ws H locs) {n : Nat} {f : Nat → Int64} (he : ws[q0]? = some (ad, .inl (cJ, n, .inr (.inl f)))) {i : Int32} {x : Int64} (hs : ws.set q0 (ad, .inl (cJ, n, .inr (.inl (vp_updL f i.toNatClampNeg x)))) = ws1) (hin : vp_in i n) (hd : decode cc pc = .ok (.lastore, 1))
    (kk : ∀ (H1 : Heap) (locs1 : List Loc), zDy D A s.heap ws1 H1 locs1 → W p l e R s m args below meth c H1 locs1 cells slots Q (F0 m (pc + 1) ls rest)) : W p l e R s m args below meth c H locs cells slots Q (F0 m pc ls (.long x :: .int i :: .ref ad :: rest)) := by
  subst hs
  exact va_last C.1 C.2.1 C.2.2.2.2.2.1 Y.1 Y.2.1 Y.2.2 q0 2 he rfl hin hd (fun H1 locs1 a b d => kk H1 locs1 ⟨a, b, d⟩)
section ZC
variable {S : Type} {wc : va_W} {wc1 ws2 : S → va_W} {y : MethodName} {wsY : List Cond} {rm : Room} {Cn : String} {index maxL n b ci q1 : Nat} {bytes : ByteArray} {ret : Option FieldType} {As st0 : List Value} {fs : List Value} {qq : vw_C} {QX : String → S → Prop}
theorem z_preX {w0 : va_W} (C : zCx p s m args c cc nL own Ts D cI cZ cJ A) (Y : zDy D A s.heap ws H locs) (hX : zXe A s s.heap) (hF : zFr ws w0 wc1 ws2) {av : List Value} : ∀ U : State, U.heap = H → s.WarmedH U.vm → zPcX D cI cZ cJ av w0 H.size av.toArray U := fun U hU hW =>
  ⟨rfl, by rw [hU], by rw [hU]; exact hF.1 D H Y.1, va_K.moved hW.alike C.2.2.2.2.2.1, (hF.2.1 A Y.2.1).weaken (fun _ _ _ _ => trivial), by rw [hU]; exact ((hX.kept (fun q h1 h2 => Y.2.2.2.1 q h1 h2)).narrow (hF.2.2.1 A s.heap H locs Y.2.1 Y.2.2 C.2.2.2.2.2.2)).warm hW⟩
theorem z_callXi {Q1 : Int32 → S → Prop} (C : zCx p s m args c cc nL own Ts D cI cZ cJ A) (Y : zDy D A s.heap ws H locs) (hX : zXe A s s.heap) (hM : zXI l y wsY rm D cI cZ cJ (.ref b :: As) wc wc1 Q1 QX) (hF : zFr ws wc wc1 ws2) (cw : CallW R s args own Cn index y bytes maxL ret wsY rm 1 6 n)
    (he : wc[q1]? = some (b, .inr (ci, fs))) (hc : vwCl[ci]? = some qq) (hq : qq.1 = Cn) (hn : As.length = n) (hls : ls.size = nL) (hst : st0 = As.reverse ++ .ref b :: rest) (hW : (rest.map fun v => v.category).sum ≤ 8) (hd : decode cc pc = .ok (.invokevirtual index, 3)) (hf : cells + 1 ≤ R.cells ∧ slots + 6 ≤ R.slots)
    (kx : ∀ (E : String) (ce : Cell) (q9 : Addr) (u : S) (H1 : Heap) (locs1 : List Loc), zDy D A s.heap (ws2 u) H1 locs1 → QX E u → H1[q9]? = some ce → ce.vm = .none → s.vm.findClass E = some ce.cls → vx_W p l e R s m args below meth c H1 locs1 (cells + 1) (slots + 6) Q (F0 m pc ls rest) q9)
    (kk : ∀ (r : Int32) (u : S) (H1 : Heap) (locs1 : List Loc), zDy D A s.heap (ws2 u) H1 locs1 → Q1 r u → W p l e R s m args below meth c H1 locs1 (cells + 1) (slots + 6) Q (F0 m (pc + 3) ls (.int r :: rest))) : W p l e R s m args below meth c H locs cells slots Q (F0 m pc ls st0) := by
  have hFc := hF.2.2.1 A s.heap H locs Y.2.1 Y.2.2 C.2.2.2.2.2.2
  refine vx_calli (vx_runV (As := As) (rest := rest) ⟨C.1, C.2.1, C.2.2.1, C.2.2.2.1, C.2.2.2.2.1⟩ (hM H.size) cw ⟨zPcX_blind, by rw [← hq]; exact va_recv C.2.2.2.2.2.1 (hF.1 D H Y.1) hc he, z_preX C Y hX hF⟩ rfl hn hls hst (lv_room hW) hd hf) Y.2.2 (fun q _ h => hFc q h) hFc (fun q _ h => hFc q h) (fun E ce q9 u t H1 locs1 ht hvm _ hB hz1 hk1 hS hce hcv hcl => ?_) (fun r u t H1 locs1 ht hvm hw hB hz1 hk1 hS => ?_)
  · obtain ⟨hq9, hP1, hK1, hD1⟩ := hB
    rw [ht] at hP1
    obtain ⟨hP2, hD2⟩ := hF.2.2.2 D A H H1 u Y.1 Y.2.1 hk1 hFc hP1 hD1
    exact kx E ce q9 u H1 locs1 ⟨hP2, hD2, hS⟩ hq9 hce hcv hcl
  · obtain ⟨hP1, hK1, hD1⟩ := hB
    rw [ht] at hP1
    obtain ⟨hP2, hD2⟩ := hF.2.2.2 D A H H1 u Y.1 Y.2.1 hk1 hFc hP1 hD1
    exact kk r u H1 locs1 ⟨hP2, hD2, hS⟩ hw
theorem z_callXv {Q1 : S → Prop} (C : zCx p s m args c cc nL own Ts D cI cZ cJ A) (Y : zDy D A s.heap ws H locs) (hX : zXe A s s.heap) (hM : zXV l y wsY rm D cI cZ cJ (.ref b :: As) wc wc1 Q1 QX) (hF : zFr ws wc wc1 ws2) (cw : CallW R s args own Cn index y bytes maxL ret wsY rm 1 6 n)
    (he : wc[q1]? = some (b, .inr (ci, fs))) (hc : vwCl[ci]? = some qq) (hq : qq.1 = Cn) (hn : As.length = n) (hls : ls.size = nL) (hst : st0 = As.reverse ++ .ref b :: rest) (hW : (rest.map fun v => v.category).sum ≤ 8) (hd : decode cc pc = .ok (.invokevirtual index, 3)) (hf : cells + 1 ≤ R.cells ∧ slots + 6 ≤ R.slots)
    (kx : ∀ (E : String) (ce : Cell) (q9 : Addr) (u : S) (H1 : Heap) (locs1 : List Loc), zDy D A s.heap (ws2 u) H1 locs1 → QX E u → H1[q9]? = some ce → ce.vm = .none → s.vm.findClass E = some ce.cls → vx_W p l e R s m args below meth c H1 locs1 (cells + 1) (slots + 6) Q (F0 m pc ls rest) q9)
    (kk : ∀ (u : S) (H1 : Heap) (locs1 : List Loc), zDy D A s.heap (ws2 u) H1 locs1 → Q1 u → W p l e R s m args below meth c H1 locs1 (cells + 1) (slots + 6) Q (F0 m (pc + 3) ls rest)) : W p l e R s m args below meth c H locs cells slots Q (F0 m pc ls st0) := by
  have hFc := hF.2.2.1 A s.heap H locs Y.2.1 Y.2.2 C.2.2.2.2.2.2
  refine vx_callv (vx_runV (As := As) (rest := rest) ⟨C.1, C.2.1, C.2.2.1, C.2.2.2.1, C.2.2.2.2.1⟩ (hM H.size) cw ⟨zPcX_blind, by rw [← hq]; exact va_recv C.2.2.2.2.2.1 (hF.1 D H Y.1) hc he, z_preX C Y hX hF⟩ rfl hn hls hst (lv_room hW) hd hf) Y.2.2 (fun q _ h => hFc q h) hFc (fun q _ h => hFc q h) (fun E ce q9 u t H1 locs1 ht hvm _ hB hz1 hk1 hS hce hcv hcl => ?_) (fun u t H1 locs1 ht hvm hw hB hz1 hk1 hS => ?_)
  · obtain ⟨hq9, hP1, hK1, hD1⟩ := hB
    rw [ht] at hP1
    obtain ⟨hP2, hD2⟩ := hF.2.2.2 D A H H1 u Y.1 Y.2.1 hk1 hFc hP1 hD1
    exact kx E ce q9 u H1 locs1 ⟨hP2, hD2, hS⟩ hq9 hce hcv hcl
  · obtain ⟨hP1, hK1, hD1⟩ := hB
    rw [ht] at hP1
    obtain ⟨hP2, hD2⟩ := hF.2.2.2 D A H H1 u Y.1 Y.2.1 hk1 hFc hP1 hD1
    exact kk u H1 locs1 ⟨hP2, hD2, hS⟩ hw
/-- the contract of a static method of the law with handlers: it returns; one cell of six slots at most -/
def zWI {S : Type} (l : Launch) (y : MethodName) (ws : List Cond) (rm : Room) (D : va_G) (cI cZ cJ : ClassId) (av : List Value) (w0 : va_W) (wf : S → va_W) (Q : Int32 → S → Prop) : Prop := ∀ sz : Nat, Met l y ws rm (zPcX D cI cZ cJ av w0 sz) (va_Qi Q (zAt D cI cZ cJ w0 sz wf) (va_A w0 sz)) 1 6 (va_A w0 sz)
theorem z_callW {Q1 : Int32 → S → Prop} {hh : List (Nat × Nat × Nat × Nat)} (C : zCx p s m args c cc nL own Ts D cI cZ cJ A) (Y : zDy D A s.heap ws H locs) (hX : zXe A s s.heap) (hM : zWI l y wsY rm D cI cZ cJ As wc wc1 Q1) (hF : zFr ws wc wc1 ws2) (cw : vx_CSW R s args own index y bytes maxL ret hh wsY rm 1 6 n)
    (hn : As.length = n) (hls : ls.size = nL) (hst : st0 = As.reverse ++ rest) (hW : (rest.map fun v => v.category).sum ≤ 8) (hd : decode cc pc = .ok (.invokestatic index, 3)) (hf : cells + 1 ≤ R.cells ∧ slots + 6 ≤ R.slots)
    (kk : ∀ (r : Int32) (u : S) (H1 : Heap) (locs1 : List Loc), zDy D A s.heap (ws2 u) H1 locs1 → Q1 r u → W p l e R s m args below meth c H1 locs1 (cells + 1) (slots + 6) Q (F0 m (pc + 3) ls (.int r :: rest))) : W p l e R s m args below meth c H locs cells slots Q (F0 m pc ls st0) := by
  have hFc := hF.2.2.1 A s.heap H locs Y.2.1 Y.2.2 C.2.2.2.2.2.2
  refine va_calli (vx_runSW (hh := hh) (As := As) (rest := rest) ⟨C.1, C.2.1, C.2.2.1, C.2.2.2.1, C.2.2.2.2.1⟩ (hM H.size) cw ⟨zPcX_blind, z_preX C Y hX hF⟩ rfl hn hls hst (lv_room hW) hd hf) Y.2.2 (fun q _ h => hFc q h) hFc (fun r u t H1 locs1 ht hvm hw hB hz1 hk1 hS => ?_)
  obtain ⟨hP1, hK1, hD1⟩ := hB
  rw [ht] at hP1
  obtain ⟨hP2, hD2⟩ := hF.2.2.2 D A H H1 u Y.1 Y.2.1 hk1 hFc hP1 hD1
  exact kk r u H1 locs1 ⟨hP2, hD2, hS⟩ hw
end ZC
end ZLJ
theorem z_ofW {S : Type} {l : Launch} {y : MethodName} {ws ws' : List Cond} {rm : Room} {D : va_G} {cI cZ cJ : ClassId} {av : List Value} {w0 : va_W} {wf : S → va_W} {cc : ByteArray} {maxL : Nat} {hh : List (Nat × Nat × Nat × Nat)} {Q1 : Int32 → S → Prop} (hy : plainName y.cls = true) (hown : y.cls = RL) (hw : ws = Cond.codeWith y cc maxL (some .int) hh :: ws') (hlen : (lg_sl av).length ≤ maxL)
    (body : ∀ {p : Program} {e : Env} {s : State} {m : MethodId} {args : Array Value} {below : List Frame} {meth : Method} {c : Code} {A : Nat → Prop} {Q : State → Prop} {ls : Array Slot}, zCx p s m args c cc maxL RL ws D cI cZ cJ A → zDy D A s.heap w0 s.heap [] → zXe A s s.heap → c.exceptionTable.toList = tableOf hh → lv_has ls maxL (lv_args 0 av) →
      (∀ {pc : Nat} {H : Heap} {locs : List Loc} {ls : Array Slot} {r : Int32} {u : S}, zDy D A s.heap (wf u) H locs → Q1 r u → decode cc pc = .ok (.ireturn, 1) → W p l e rm s m args below meth c H locs 1 6 Q (F0 m pc ls [.int r])) →
      W p l e rm s m args below meth c s.heap [] 0 0 Q (F0 m 0 ls [])) : zWI l y ws rm D cI cZ cJ av w0 wf Q1 := by
  intro sz
  refine va_MetW (cc := cc) (maxL := maxL) (ret := (some .int)) (hh := hh) hy hw ?_
  intro p e s m args below meth c s₁ B hml hv
  obtain ⟨rfl, hsz, hP, hK, hD0, hX⟩ := hv
  subst hsz
  have hts := atoms_spec (ws := ws) B.pre
  have hfc : s.vm.findClass RL = some m.cls := by rw [← hown]; exact findClass_of_methodNamed B.named
  have hl := lv_entry av (n := maxL) hlen
  rw [lg_entry_eq]
  refine body ⟨B.exec, B.bytes, hml, hfc, hts, hK, fun q h => Or.inr h⟩ ⟨hP, hD0.self, va_S.rf⟩ hX (vx_table (x := y) B (hts _ (by rw [hw]; exact List.mem_cons_self))) hl (fun {pc} {H} {locs} {ls} {r} {u} Y hq hd => ?_)
  exact W.iret B.exec B.bytes B.returns (fun t ht hW => ⟨⟨r, u, rfl, hq, by rw [ht]; exact Y.1, va_K.moved hW.alike hK, Y.2.1⟩, Y.2.2.F ht⟩) Y.2.2.2.2 hd B.notSynchronized

