section
variable {p : Program} {l : Launch} {e : Env} {s : State} {m : MethodId} {args : Array Value} {below : List Frame} {meth : Method} {c : Code} {H : Heap} {locs : List Loc} {Q : State → Prop} {D : va_G} {cI cZ cJ : ClassId} {A : Nat → Prop} {ls : Array Slot}
def wp_L_law_512 (L : Nat) (xs : Nat → Int32) (J23 : Int32 → Nat → Nat → zSt → zSt → zSt → zSt → zSt → zSt → zSt → (Nat → Int64) → Prop) (x4 : Int32) (cs sl : Nat) (u0 : zSt) (u1 : zSt) (u2 : zSt) (u3 : zSt) (u4 : zSt) (u5 : zSt) (u7 : zSt) (u8 : (Nat → Int64)) : Prop :=
  (cs + 1 ≤ 601024 ∧ sl + 6 ≤ 7293034) ∧ (vp_in (x4 + 1) L ∧ (vp_in (x4 + 2) L ∧ (TL_lot (fun (r_8 : Int32) (w_17 : zSt × zSt × zSt × zSt × zSt × zSt × (Nat → Int64)) => ∀ x5_9 : Int32, x5_9 = r_8 → vp_in (x4 + 1) L ∧ (vp_in (x4 + 2) L ∧ (TX7_lot (fun (r_11 : Int32) (u7_10 : zSt) => ∀ x6_12 : Int32, x6_12 = r_11 → TX7_thrown (fun (r_14 : Int32) (u7_13 : zSt) => (r_14 = x5_9 → (x5_9 = (0 : Int32) → ((lg_cmp (w_17.2.2.2.2.2.2 (0 : Int32).toNatClampNeg) ((x6_12 : Int32).toInt64)) = (0 : Int32) → ∀ x4_16 : Int32, x4_16 = x4 + 5 → J23 x4_16 (cs + 1) (sl + 6) w_17.1 w_17.2.1 w_17.2.2.1 w_17.2.2.2.1 w_17.2.2.2.2.1 w_17.2.2.2.2.2.1 u7_13 w_17.2.2.2.2.2.2) ∧ (¬ (lg_cmp (w_17.2.2.2.2.2.2 (0 : Int32).toNatClampNeg) ((x6_12 : Int32).toInt64)) = (0 : Int32) → False)) ∧ (¬ x5_9 = (0 : Int32) → ∀ x4_15 : Int32, x4_15 = x4 + 5 → J23 x4_15 (cs + 1) (sl + 6) w_17.1 w_17.2.1 w_17.2.2.1 w_17.2.2.2.1 w_17.2.2.2.2.1 w_17.2.2.2.2.2.1 u7_13 w_17.2.2.2.2.2.2)) ∧ (¬ r_14 = x5_9 → False))  u7_10) (xs (x4 + 1).toNatClampNeg) (xs (x4 + 2).toNatClampNeg) u7))) (xs (x4 + 1).toNatClampNeg) (xs (x4 + 2).toNatClampNeg) u0 u1 u2 u3 u4 u5 u8)))
set_option maxHeartbeats 4000000 in
set_option maxRecDepth 100000 in
theorem bk_L_law_512 {a : Nat → Nat → Nat} {b L : Nat} {xs : Nat → Int32} {J23 : Int32 → Nat → Nat → zSt → zSt → zSt → zSt → zSt → zSt → zSt → (Nat → Int64) → Prop} {x4 : Int32} {cs sl : Nat} {u0 : zSt} {u1 : zSt} {u2 : zSt} {u3 : zSt} {u4 : zSt} {u5 : zSt} {u7 : zSt} {u8 : (Nat → Int64)} (C : zCx p s m args c cL_law 7 RL wsL_law D cI cZ cJ A) (Y : zDy D A s.heap (kl a cI cZ cJ (u0, u1, u2, u3, u4, u5, u7, u8)) H locs) (hl : lv_has ls 7 [(0, .ref b), (1, .ref (a 6 99)), (2, .ref (a 7 99)), (3, .ref (a 8 0)), (4, .int x4)]) (hlt : l.stackTraces = false) (hX : zXe A s s.heap) (hXs : va_X b L xs s s.heap) (hbl : b < s.heap.size) (hbA : ¬ A b) (hret : ∀ {pc : Nat} {H : Heap} {locs : List Loc} {ls : Array Slot} {cs sl : Nat} {u0 : zSt} {u1 : zSt} {u2 : zSt} {u3 : zSt} {u4 : zSt} {u5 : zSt} {u7 : zSt} {u8 : (Nat → Int64)}, zDy D A s.heap (kl a cI cZ cJ (u0, u1, u2, u3, u4, u5, u7, u8)) H locs → (cs ≤ 601024 ∧ sl ≤ 7293034) → decode cL_law pc = .ok (.ireturn, 1) → W p l e room_1 s m args below meth c H locs cs sl Q (F0 m pc ls [.int 1])) (hJ23 : ∀ (x4 : Int32) (cs sl : Nat) (u0 : zSt) (u1 : zSt) (u2 : zSt) (u3 : zSt) (u4 : zSt) (u5 : zSt) (u7 : zSt) (u8 : (Nat → Int64)) (H : Heap) (locs : List Loc) (ls : Array Slot), J23 x4 cs sl u0 u1 u2 u3 u4 u5 u7 u8 → zDy D A s.heap (kl a cI cZ cJ (u0, u1, u2, u3, u4, u5, u7, u8)) H locs → lv_has ls 7 [(0, .ref b), (1, .ref (a 6 99)), (2, .ref (a 7 99)), (3, .ref (a 8 0)), (4, .int x4)] → W p l e room_1 s m args below meth c H locs cs sl Q (F0 m 23 ls [])) (hv : wp_L_law_512 L xs J23 x4 cs sl u0 u1 u2 u3 u4 u5 u7 u8) : W p l e room_1 s m args below meth c H locs cs sl Q (F0 m 512 ls []) := by
  unfold wp_L_law_512 at hv
  obtain ⟨hcs, hv⟩ := hv
  obtain ⟨hx, hb, hml, hown, hts, hK, hA⟩ := id C
  refine lv_aload_n hx hb dL_law_512 rfl (lv_at hl 1 rfl) ?_
  refine lv_aload_n hx hb dL_law_513 rfl (lv_at hl 0 rfl) ?_
  refine lv_iload hx hb dL_law_514 (lv_at hl 4 rfl) ?_
  refine lv_iconst (v := 1) hx hb dL_law_516 (by decide) ?_
  refine lv_iadd hx hb dL_law_517 ?_
  obtain ⟨hi, hv⟩ := hv
  refine va_sld hx hb hXs hbl hbA Y.2.2 hi dL_law_518 ?_
  refine lv_aload_n hx hb dL_law_519 rfl (lv_at hl 0 rfl) ?_
  refine lv_iload hx hb dL_law_520 (lv_at hl 4 rfl) ?_
  refine lv_iconst (v := 2) hx hb dL_law_522 (by decide) ?_
  refine lv_iadd hx hb dL_law_523 ?_
  obtain ⟨hi, hv⟩ := hv
  refine va_sld hx hb hXs hbl hbA Y.2.2 hi dL_law_524 ?_
  refine lv_aload_n hx hb dL_law_525 rfl (lv_at hl 3 rfl) ?_
  refine z_callW C Y hX (c_L_lot l hlt hv) (frl_w ..) (vx_cwSW 4 hts gL_law_L_lot rfl rfl rfl (by decide +kernel) ⟨Nat.le_of_ble_eq_true rfl, Nat.le_of_ble_eq_true rfl⟩) rfl hl.1 rfl (Nat.le_of_ble_eq_true rfl) dL_law_526 ⟨by show _ ≤ 601024; omega, by show _ ≤ 7293034; omega⟩ (fun r_8 ⟨u0_1, u1_2, u2_3, u3_4, u4_5, u5_6, u8_7⟩ H locs Y hv => ?_)
  refine z_topi hv (fun x5_9 ex5_9 hv => ?_)
  refine lv_istore (lv' := [(5, .int x5_9), (0, .ref b), (1, .ref (a 6 99)), (2, .ref (a 7 99)), (3, .ref (a 8 0)), (4, .int x4)]) hx hb dL_law_529 hl (by decide) rfl (fun ls hl => ?_)
  refine lv_aload_n hx hb dL_law_531 rfl (lv_at hl 3 rfl) ?_
  refine lv_aload_n hx hb dL_law_532 rfl (lv_at hl 1 rfl) ?_
  refine lv_iload hx hb dL_law_533 (lv_at hl 5 rfl) ?_
  refine lv_iconst (v := 1) hx hb dL_law_535 (by decide) ?_
  refine lv_iadd hx hb dL_law_536 ?_
  obtain ⟨hi, hv⟩ := hv
  refine va_sld hx hb hXs hbl hbA Y.2.2 hi dL_law_537 ?_
  refine lv_aload_n hx hb dL_law_538 rfl (lv_at hl 1 rfl) ?_
  refine lv_iload hx hb dL_law_539 (lv_at hl 5 rfl) ?_
  refine lv_iconst (v := 2) hx hb dL_law_541 (by decide) ?_
  refine lv_iadd hx hb dL_law_542 ?_
  obtain ⟨hi, hv⟩ := hv
  refine va_sld hx hb hXs hbl hbA Y.2.2 hi dL_law_543 ?_
  refine z_callVi C Y (c_X7_lot l hv) (frl_7 ..) (cwV 2 hts gL_law_X7_lot rfl rfl rfl (by decide +kernel) ⟨Nat.le_of_ble_eq_true rfl, Nat.le_of_ble_eq_true rfl⟩) (ge7_7 ..) rfl rfl rfl hl.1 rfl (Nat.le_of_ble_eq_true rfl) dL_law_544 ⟨by show _ ≤ 601024; omega, by show _ ≤ 7293034; omega⟩ (fun r_11 u7_10 H locs Y hv => ?_)
  refine z_topi hv (fun x6_12 ex6_12 hv => ?_)
  refine lv_istore (lv' := [(6, .int x6_12), (5, .int x5_9), (0, .ref b), (1, .ref (a 6 99)), (2, .ref (a 7 99)), (3, .ref (a 8 0)), (4, .int x4)]) hx hb dL_law_547 hl (by decide) rfl (fun ls hl => ?_)
  refine lv_aload_n hx hb dL_law_549 rfl (lv_at hl 4 rfl) ?_
  refine z_callVi C Y (c_X7_thrown l hv) (frl_7 ..) (cwV 0 hts gL_law_X7_thrown rfl rfl rfl (by decide +kernel) ⟨Nat.le_of_ble_eq_true rfl, Nat.le_of_ble_eq_true rfl⟩) (ge7_7 ..) rfl rfl rfl hl.1 rfl (Nat.le_of_ble_eq_true rfl) dL_law_550 ⟨by show _ ≤ 601024; omega, by show _ ≤ 7293034; omega⟩ (fun r_14 u7_13 H locs Y hv => ?_)
  refine lv_iload hx hb dL_law_553 (lv_at hl 1 rfl) ?_
  refine lv_icmp_eq (tgt := 560) hx hb dL_law_555 (by decide) (fun hc => ?_) (fun hc => ?_)
  · have hv := hv.1 hc
    refine lv_iload hx hb dL_law_560 (lv_at hl 1 rfl) ?_
    refine lv_if_ne (tgt := 577) hx hb dL_law_562 (by decide) (fun hc => ?_) (fun hc => ?_)
    · have hv := hv.2 hc
      refine lv_goto (tgt := 1375) hx hb dL_law_577 (by decide) ?_
      obtain ⟨x4_15, ex4_15, hv⟩ := z_nv hv
      refine lv_iinc (v := x4_15) (lv' := [(4, .int x4_15), (6, .int x6_12), (5, .int x5_9), (0, .ref b), (1, .ref (a 6 99)), (2, .ref (a 7 99)), (3, .ref (a 8 0))]) hx hb dL_law_1375 hl (k := 6) rfl (by rw [ex4_15]; rfl) (by decide) rfl (fun ls hl => ?_)
      refine lv_goto (tgt := 23) hx hb dL_law_1378 (by decide) ?_
      exact hJ23 _ _ _ _ _ _ _ _ _ _ _ _ _ _ hv Y (lv_sub hl [3, 4, 5, 6, 0] rfl)
    · have hv := hv.1 hc
      refine lv_aload_n hx hb dL_law_565 rfl (lv_at hl 5 rfl) ?_
      refine lv_iconst (v := 0) hx hb dL_law_566 (by decide) ?_
      refine z_ldJ C Y (pal_8_0 ..) z_in01 dL_law_567 ?_
      refine lv_iload hx hb dL_law_568 (lv_at hl 0 rfl) ?_
      refine lv_i2l hx hb dL_law_570 rfl ?_
      refine W.lcmp hx hb dL_law_571 ?_
      refine lv_if_eq (tgt := 577) hx hb dL_law_572 (by decide) (fun hc => ?_) (fun hc => ?_)
      · have hv := hv.1 hc
        refine lv_goto (tgt := 1375) hx hb dL_law_577 (by decide) ?_
        obtain ⟨x4_16, ex4_16, hv⟩ := z_nv hv
        refine lv_iinc (v := x4_16) (lv' := [(4, .int x4_16), (6, .int x6_12), (5, .int x5_9), (0, .ref b), (1, .ref (a 6 99)), (2, .ref (a 7 99)), (3, .ref (a 8 0))]) hx hb dL_law_1375 hl (k := 6) rfl (by rw [ex4_16]; rfl) (by decide) rfl (fun ls hl => ?_)
        refine lv_goto (tgt := 23) hx hb dL_law_1378 (by decide) ?_
        exact hJ23 _ _ _ _ _ _ _ _ _ _ _ _ _ _ hv Y (lv_sub hl [3, 4, 5, 6, 0] rfl)
      · have hv := hv.2 hc
        refine lv_iconst (v := 0) hx hb dL_law_575 (by decide) ?_
        exact hv.elim
  · have hv := hv.2 hc
    refine lv_iconst (v := 0) hx hb dL_law_558 (by decide) ?_
    exact hv.elim

def wp_L_law_1159 (L : Nat) (xs : Nat → Int32) (J23 : Int32 → Nat → Nat → zSt → zSt → zSt → zSt → zSt → zSt → zSt → (Nat → Int64) → Prop) (x4 : Int32) (cs sl : Nat) (u0 : zSt) (u1 : zSt) (u2 : zSt) (u3 : zSt) (u4 : zSt) (u5 : zSt) (u7 : zSt) (u8 : (Nat → Int64)) : Prop :=
  (cs + 1 ≤ 601024 ∧ sl + 6 ≤ 7293034) ∧ (TX6_ungrade (fun (r_7 : Int32) (w_11 : zSt × zSt × zSt × zSt × zSt × zSt) => TX7_ungrade (fun (r_9 : Int32) (u7_8 : zSt) => (r_7 = r_9 → ∀ x4_10 : Int32, x4_10 = x4 + 5 → J23 x4_10 cs sl w_11.1 w_11.2.1 w_11.2.2.1 w_11.2.2.2.1 w_11.2.2.2.2.1 w_11.2.2.2.2.2 u7_8 u8) ∧ (¬ r_7 = r_9 → False))  u7)  u0 u1 u2 u3 u4 u5)
set_option maxHeartbeats 4000000 in
set_option maxRecDepth 100000 in
theorem bk_L_law_1159 {a : Nat → Nat → Nat} {b L : Nat} {xs : Nat → Int32} {J23 : Int32 → Nat → Nat → zSt → zSt → zSt → zSt → zSt → zSt → zSt → (Nat → Int64) → Prop} {x4 : Int32} {cs sl : Nat} {u0 : zSt} {u1 : zSt} {u2 : zSt} {u3 : zSt} {u4 : zSt} {u5 : zSt} {u7 : zSt} {u8 : (Nat → Int64)} (C : zCx p s m args c cL_law 7 RL wsL_law D cI cZ cJ A) (Y : zDy D A s.heap (kl a cI cZ cJ (u0, u1, u2, u3, u4, u5, u7, u8)) H locs) (hl : lv_has ls 7 [(0, .ref b), (1, .ref (a 6 99)), (2, .ref (a 7 99)), (3, .ref (a 8 0)), (4, .int x4)]) (hlt : l.stackTraces = false) (hX : zXe A s s.heap) (hXs : va_X b L xs s s.heap) (hbl : b < s.heap.size) (hbA : ¬ A b) (hret : ∀ {pc : Nat} {H : Heap} {locs : List Loc} {ls : Array Slot} {cs sl : Nat} {u0 : zSt} {u1 : zSt} {u2 : zSt} {u3 : zSt} {u4 : zSt} {u5 : zSt} {u7 : zSt} {u8 : (Nat → Int64)}, zDy D A s.heap (kl a cI cZ cJ (u0, u1, u2, u3, u4, u5, u7, u8)) H locs → (cs ≤ 601024 ∧ sl ≤ 7293034) → decode cL_law pc = .ok (.ireturn, 1) → W p l e room_1 s m args below meth c H locs cs sl Q (F0 m pc ls [.int 1])) (hJ23 : ∀ (x4 : Int32) (cs sl : Nat) (u0 : zSt) (u1 : zSt) (u2 : zSt) (u3 : zSt) (u4 : zSt) (u5 : zSt) (u7 : zSt) (u8 : (Nat → Int64)) (H : Heap) (locs : List Loc) (ls : Array Slot), J23 x4 cs sl u0 u1 u2 u3 u4 u5 u7 u8 → zDy D A s.heap (kl a cI cZ cJ (u0, u1, u2, u3, u4, u5, u7, u8)) H locs → lv_has ls 7 [(0, .ref b), (1, .ref (a 6 99)), (2, .ref (a 7 99)), (3, .ref (a 8 0)), (4, .int x4)] → W p l e room_1 s m args below meth c H locs cs sl Q (F0 m 23 ls [])) (hv : wp_L_law_1159 L xs J23 x4 cs sl u0 u1 u2 u3 u4 u5 u7 u8) : W p l e room_1 s m args below meth c H locs cs sl Q (F0 m 1159 ls []) := by
  unfold wp_L_law_1159 at hv
  obtain ⟨hcs, hv⟩ := hv
  obtain ⟨hx, hb, hml, hown, hts, hK, hA⟩ := id C
  refine lv_aload_n hx hb dL_law_1159 rfl (lv_at hl 1 rfl) ?_
  refine z_callVi C Y (c_X6_ungrade l hv) (frl_6 ..) (cwV 0 hts gL_law_X6_ungrade rfl rfl rfl (by decide +kernel) ⟨Nat.le_of_ble_eq_true rfl, Nat.le_of_ble_eq_true rfl⟩) (ge6_6 ..) rfl rfl rfl hl.1 rfl (Nat.le_of_ble_eq_true rfl) dL_law_1160 ⟨by show _ ≤ 601024; omega, by show _ ≤ 7293034; omega⟩ (fun r_7 ⟨u0_1, u1_2, u2_3, u3_4, u4_5, u5_6⟩ H locs Y hv => ?_)
  refine lv_aload_n hx hb dL_law_1163 rfl (lv_at hl 2 rfl) ?_
  refine z_callVi C Y (c_X7_ungrade l hv) (frl_7 ..) (cwV 0 hts gL_law_X7_ungrade rfl rfl rfl (by decide +kernel) ⟨Nat.le_of_ble_eq_true rfl, Nat.le_of_ble_eq_true rfl⟩) (ge7_7 ..) rfl rfl rfl hl.1 rfl (Nat.le_of_ble_eq_true rfl) dL_law_1164 ⟨by show _ ≤ 601024; omega, by show _ ≤ 7293034; omega⟩ (fun r_9 u7_8 H locs Y hv => ?_)
  refine lv_icmp_eq (tgt := 1375) hx hb dL_law_1167 (by decide) (fun hc => ?_) (fun hc => ?_)
  · have hv := hv.1 hc
    obtain ⟨x4_10, ex4_10, hv⟩ := z_nv hv
    refine lv_iinc (v := x4_10) (lv' := [(4, .int x4_10), (0, .ref b), (1, .ref (a 6 99)), (2, .ref (a 7 99)), (3, .ref (a 8 0))]) hx hb dL_law_1375 hl (k := 4) rfl (by rw [ex4_10]; rfl) (by decide) rfl (fun ls hl => ?_)
    refine lv_goto (tgt := 23) hx hb dL_law_1378 (by decide) ?_
    exact hJ23 _ _ _ _ _ _ _ _ _ _ _ _ _ _ hv Y (lv_sub hl [1, 2, 3, 4, 0] rfl)
  · have hv := hv.2 hc
    refine lv_iconst (v := 0) hx hb dL_law_1170 (by decide) ?_
    exact hv.elim

def wp_L_law_136 (L : Nat) (xs : Nat → Int32) (J23 : Int32 → Nat → Nat → zSt → zSt → zSt → zSt → zSt → zSt → zSt → (Nat → Int64) → Prop) (x4 : Int32) (cs sl : Nat) (u0 : zSt) (u1 : zSt) (u2 : zSt) (u3 : zSt) (u4 : zSt) (u5 : zSt) (u7 : zSt) (u8 : (Nat → Int64)) : Prop :=
  (cs + 1 ≤ 601024 ∧ sl + 6 ≤ 7293034) ∧ (vp_in (x4 + 1) L ∧ (vp_in (x4 + 2) L ∧ (vp_in (x4 + 3) L ∧ (vp_in (x4 + 4) L ∧ (TL_earth (fun (r_8 : Int32) (w_17 : zSt × zSt × zSt × zSt × zSt × zSt × (Nat → Int64)) => ∀ x5_9 : Int32, x5_9 = r_8 → vp_in (x4 + 1) L ∧ (vp_in (x4 + 2) L ∧ (vp_in (x4 + 3) L ∧ (vp_in (x4 + 4) L ∧ (TX7_earth (fun (r_11 : Int32) (u7_10 : zSt) => ∀ x6_12 : Int32, x6_12 = r_11 → TX7_thrown (fun (r_14 : Int32) (u7_13 : zSt) => (r_14 = x5_9 → (x5_9 = (0 : Int32) → ((lg_cmp (w_17.2.2.2.2.2.2 (0 : Int32).toNatClampNeg) ((x6_12 : Int32).toInt64)) = (0 : Int32) → ∀ x4_16 : Int32, x4_16 = x4 + 5 → J23 x4_16 (cs + 1) (sl + 6) w_17.1 w_17.2.1 w_17.2.2.1 w_17.2.2.2.1 w_17.2.2.2.2.1 w_17.2.2.2.2.2.1 u7_13 w_17.2.2.2.2.2.2) ∧ (¬ (lg_cmp (w_17.2.2.2.2.2.2 (0 : Int32).toNatClampNeg) ((x6_12 : Int32).toInt64)) = (0 : Int32) → False)) ∧ (¬ x5_9 = (0 : Int32) → ∀ x4_15 : Int32, x4_15 = x4 + 5 → J23 x4_15 (cs + 1) (sl + 6) w_17.1 w_17.2.1 w_17.2.2.1 w_17.2.2.2.1 w_17.2.2.2.2.1 w_17.2.2.2.2.2.1 u7_13 w_17.2.2.2.2.2.2)) ∧ (¬ r_14 = x5_9 → False))  u7_10) (xs (x4 + 1).toNatClampNeg) (xs (x4 + 2).toNatClampNeg) (xs (x4 + 3).toNatClampNeg) (xs (x4 + 4).toNatClampNeg) u7))))) (xs (x4 + 1).toNatClampNeg) (xs (x4 + 2).toNatClampNeg) (xs (x4 + 3).toNatClampNeg) (xs (x4 + 4).toNatClampNeg) u0 u1 u2 u3 u4 u5 u8)))))
set_option maxHeartbeats 4000000 in
set_option maxRecDepth 100000 in
theorem bk_L_law_136 {a : Nat → Nat → Nat} {b L : Nat} {xs : Nat → Int32} {J23 : Int32 → Nat → Nat → zSt → zSt → zSt → zSt → zSt → zSt → zSt → (Nat → Int64) → Prop} {x4 : Int32} {cs sl : Nat} {u0 : zSt} {u1 : zSt} {u2 : zSt} {u3 : zSt} {u4 : zSt} {u5 : zSt} {u7 : zSt} {u8 : (Nat → Int64)} (C : zCx p s m args c cL_law 7 RL wsL_law D cI cZ cJ A) (Y : zDy D A s.heap (kl a cI cZ cJ (u0, u1, u2, u3, u4, u5, u7, u8)) H locs) (hl : lv_has ls 7 [(0, .ref b), (1, .ref (a 6 99)), (2, .ref (a 7 99)), (3, .ref (a 8 0)), (4, .int x4)]) (hlt : l.stackTraces = false) (hX : zXe A s s.heap) (hXs : va_X b L xs s s.heap) (hbl : b < s.heap.size) (hbA : ¬ A b) (hret : ∀ {pc : Nat} {H : Heap} {locs : List Loc} {ls : Array Slot} {cs sl : Nat} {u0 : zSt} {u1 : zSt} {u2 : zSt} {u3 : zSt} {u4 : zSt} {u5 : zSt} {u7 : zSt} {u8 : (Nat → Int64)}, zDy D A s.heap (kl a cI cZ cJ (u0, u1, u2, u3, u4, u5, u7, u8)) H locs → (cs ≤ 601024 ∧ sl ≤ 7293034) → decode cL_law pc = .ok (.ireturn, 1) → W p l e room_1 s m args below meth c H locs cs sl Q (F0 m pc ls [.int 1])) (hJ23 : ∀ (x4 : Int32) (cs sl : Nat) (u0 : zSt) (u1 : zSt) (u2 : zSt) (u3 : zSt) (u4 : zSt) (u5 : zSt) (u7 : zSt) (u8 : (Nat → Int64)) (H : Heap) (locs : List Loc) (ls : Array Slot), J23 x4 cs sl u0 u1 u2 u3 u4 u5 u7 u8 → zDy D A s.heap (kl a cI cZ cJ (u0, u1, u2, u3, u4, u5, u7, u8)) H locs → lv_has ls 7 [(0, .ref b), (1, .ref (a 6 99)), (2, .ref (a 7 99)), (3, .ref (a 8 0)), (4, .int x4)] → W p l e room_1 s m args below meth c H locs cs sl Q (F0 m 23 ls [])) (hv : wp_L_law_136 L xs J23 x4 cs sl u0 u1 u2 u3 u4 u5 u7 u8) : W p l e room_1 s m args below meth c H locs cs sl Q (F0 m 136 ls []) := by
  unfold wp_L_law_136 at hv
  obtain ⟨hcs, hv⟩ := hv
  obtain ⟨hx, hb, hml, hown, hts, hK, hA⟩ := id C
  refine lv_aload_n hx hb dL_law_136 rfl (lv_at hl 1 rfl) ?_
  refine lv_aload_n hx hb dL_law_137 rfl (lv_at hl 0 rfl) ?_
  refine lv_iload hx hb dL_law_138 (lv_at hl 4 rfl) ?_
  refine lv_iconst (v := 1) hx hb dL_law_140 (by decide) ?_
  refine lv_iadd hx hb dL_law_141 ?_
  obtain ⟨hi, hv⟩ := hv
  refine va_sld hx hb hXs hbl hbA Y.2.2 hi dL_law_142 ?_
  refine lv_aload_n hx hb dL_law_143 rfl (lv_at hl 0 rfl) ?_
  refine lv_iload hx hb dL_law_144 (lv_at hl 4 rfl) ?_
  refine lv_iconst (v := 2) hx hb dL_law_146 (by decide) ?_
  refine lv_iadd hx hb dL_law_147 ?_
  obtain ⟨hi, hv⟩ := hv
  refine va_sld hx hb hXs hbl hbA Y.2.2 hi dL_law_148 ?_
  refine lv_aload_n hx hb dL_law_149 rfl (lv_at hl 0 rfl) ?_
  refine lv_iload hx hb dL_law_150 (lv_at hl 4 rfl) ?_
  refine lv_iconst (v := 3) hx hb dL_law_152 (by decide) ?_
  refine lv_iadd hx hb dL_law_153 ?_
  obtain ⟨hi, hv⟩ := hv
  refine va_sld hx hb hXs hbl hbA Y.2.2 hi dL_law_154 ?_
  refine lv_aload_n hx hb dL_law_155 rfl (lv_at hl 0 rfl) ?_
  refine lv_iload hx hb dL_law_156 (lv_at hl 4 rfl) ?_
  refine lv_iconst (v := 4) hx hb dL_law_158 (by decide) ?_
  refine lv_iadd hx hb dL_law_159 ?_
  obtain ⟨hi, hv⟩ := hv
  refine va_sld hx hb hXs hbl hbA Y.2.2 hi dL_law_160 ?_
  refine lv_aload_n hx hb dL_law_161 rfl (lv_at hl 3 rfl) ?_
  refine z_callW C Y hX (c_L_earth l hlt hv) (frl_w ..) (vx_cwSW 6 hts gL_law_L_earth rfl rfl rfl (by decide +kernel) ⟨Nat.le_of_ble_eq_true rfl, Nat.le_of_ble_eq_true rfl⟩) rfl hl.1 rfl (Nat.le_of_ble_eq_true rfl) dL_law_162 ⟨by show _ ≤ 601024; omega, by show _ ≤ 7293034; omega⟩ (fun r_8 ⟨u0_1, u1_2, u2_3, u3_4, u4_5, u5_6, u8_7⟩ H locs Y hv => ?_)
  refine z_topi hv (fun x5_9 ex5_9 hv => ?_)
  refine lv_istore (lv' := [(5, .int x5_9), (0, .ref b), (1, .ref (a 6 99)), (2, .ref (a 7 99)), (3, .ref (a 8 0)), (4, .int x4)]) hx hb dL_law_165 hl (by decide) rfl (fun ls hl => ?_)
  refine lv_aload_n hx hb dL_law_167 rfl (lv_at hl 3 rfl) ?_
  refine lv_aload_n hx hb dL_law_168 rfl (lv_at hl 1 rfl) ?_
  refine lv_iload hx hb dL_law_169 (lv_at hl 5 rfl) ?_
  refine lv_iconst (v := 1) hx hb dL_law_171 (by decide) ?_
  refine lv_iadd hx hb dL_law_172 ?_
  obtain ⟨hi, hv⟩ := hv
  refine va_sld hx hb hXs hbl hbA Y.2.2 hi dL_law_173 ?_
  refine lv_aload_n hx hb dL_law_174 rfl (lv_at hl 1 rfl) ?_
  refine lv_iload hx hb dL_law_175 (lv_at hl 5 rfl) ?_
  refine lv_iconst (v := 2) hx hb dL_law_177 (by decide) ?_
  refine lv_iadd hx hb dL_law_178 ?_
  obtain ⟨hi, hv⟩ := hv
  refine va_sld hx hb hXs hbl hbA Y.2.2 hi dL_law_179 ?_
  refine lv_aload_n hx hb dL_law_180 rfl (lv_at hl 1 rfl) ?_
  refine lv_iload hx hb dL_law_181 (lv_at hl 5 rfl) ?_
  refine lv_iconst (v := 3) hx hb dL_law_183 (by decide) ?_
  refine lv_iadd hx hb dL_law_184 ?_
  obtain ⟨hi, hv⟩ := hv
  refine va_sld hx hb hXs hbl hbA Y.2.2 hi dL_law_185 ?_
  refine lv_aload_n hx hb dL_law_186 rfl (lv_at hl 1 rfl) ?_
  refine lv_iload hx hb dL_law_187 (lv_at hl 5 rfl) ?_
  refine lv_iconst (v := 4) hx hb dL_law_189 (by decide) ?_
  refine lv_iadd hx hb dL_law_190 ?_
  obtain ⟨hi, hv⟩ := hv
  refine va_sld hx hb hXs hbl hbA Y.2.2 hi dL_law_191 ?_
  refine z_callVi C Y (c_X7_earth l hv) (frl_7 ..) (cwV 4 hts gL_law_X7_earth rfl rfl rfl (by decide +kernel) ⟨Nat.le_of_ble_eq_true rfl, Nat.le_of_ble_eq_true rfl⟩) (ge7_7 ..) rfl rfl rfl hl.1 rfl (Nat.le_of_ble_eq_true rfl) dL_law_192 ⟨by show _ ≤ 601024; omega, by show _ ≤ 7293034; omega⟩ (fun r_11 u7_10 H locs Y hv => ?_)
  refine z_topi hv (fun x6_12 ex6_12 hv => ?_)
  refine lv_istore (lv' := [(6, .int x6_12), (5, .int x5_9), (0, .ref b), (1, .ref (a 6 99)), (2, .ref (a 7 99)), (3, .ref (a 8 0)), (4, .int x4)]) hx hb dL_law_195 hl (by decide) rfl (fun ls hl => ?_)
  refine lv_aload_n hx hb dL_law_197 rfl (lv_at hl 4 rfl) ?_
  refine z_callVi C Y (c_X7_thrown l hv) (frl_7 ..) (cwV 0 hts gL_law_X7_thrown rfl rfl rfl (by decide +kernel) ⟨Nat.le_of_ble_eq_true rfl, Nat.le_of_ble_eq_true rfl⟩) (ge7_7 ..) rfl rfl rfl hl.1 rfl (Nat.le_of_ble_eq_true rfl) dL_law_198 ⟨by show _ ≤ 601024; omega, by show _ ≤ 7293034; omega⟩ (fun r_14 u7_13 H locs Y hv => ?_)
  refine lv_iload hx hb dL_law_201 (lv_at hl 1 rfl) ?_
  refine lv_icmp_eq (tgt := 208) hx hb dL_law_203 (by decide) (fun hc => ?_) (fun hc => ?_)
  · have hv := hv.1 hc
    refine lv_iload hx hb dL_law_208 (lv_at hl 1 rfl) ?_
    refine lv_if_ne (tgt := 225) hx hb dL_law_210 (by decide) (fun hc => ?_) (fun hc => ?_)
    · have hv := hv.2 hc
      refine lv_goto (tgt := 1375) hx hb dL_law_225 (by decide) ?_
      obtain ⟨x4_15, ex4_15, hv⟩ := z_nv hv
      refine lv_iinc (v := x4_15) (lv' := [(4, .int x4_15), (6, .int x6_12), (5, .int x5_9), (0, .ref b), (1, .ref (a 6 99)), (2, .ref (a 7 99)), (3, .ref (a 8 0))]) hx hb dL_law_1375 hl (k := 6) rfl (by rw [ex4_15]; rfl) (by decide) rfl (fun ls hl => ?_)
      refine lv_goto (tgt := 23) hx hb dL_law_1378 (by decide) ?_
      exact hJ23 _ _ _ _ _ _ _ _ _ _ _ _ _ _ hv Y (lv_sub hl [3, 4, 5, 6, 0] rfl)
    · have hv := hv.1 hc
      refine lv_aload_n hx hb dL_law_213 rfl (lv_at hl 5 rfl) ?_
      refine lv_iconst (v := 0) hx hb dL_law_214 (by decide) ?_
      refine z_ldJ C Y (pal_8_0 ..) z_in01 dL_law_215 ?_
      refine lv_iload hx hb dL_law_216 (lv_at hl 0 rfl) ?_
      refine lv_i2l hx hb dL_law_218 rfl ?_
      refine W.lcmp hx hb dL_law_219 ?_
      refine lv_if_eq (tgt := 225) hx hb dL_law_220 (by decide) (fun hc => ?_) (fun hc => ?_)
      · have hv := hv.1 hc
        refine lv_goto (tgt := 1375) hx hb dL_law_225 (by decide) ?_
        obtain ⟨x4_16, ex4_16, hv⟩ := z_nv hv
        refine lv_iinc (v := x4_16) (lv' := [(4, .int x4_16), (6, .int x6_12), (5, .int x5_9), (0, .ref b), (1, .ref (a 6 99)), (2, .ref (a 7 99)), (3, .ref (a 8 0))]) hx hb dL_law_1375 hl (k := 6) rfl (by rw [ex4_16]; rfl) (by decide) rfl (fun ls hl => ?_)
        refine lv_goto (tgt := 23) hx hb dL_law_1378 (by decide) ?_
        exact hJ23 _ _ _ _ _ _ _ _ _ _ _ _ _ _ hv Y (lv_sub hl [3, 4, 5, 6, 0] rfl)
      · have hv := hv.2 hc
        refine lv_iconst (v := 0) hx hb dL_law_223 (by decide) ?_
        exact hv.elim
  · have hv := hv.2 hc
    refine lv_iconst (v := 0) hx hb dL_law_206 (by decide) ?_
    exact hv.elim

def wp_L_law_1172 (L : Nat) (xs : Nat → Int32) (J23 : Int32 → Nat → Nat → zSt → zSt → zSt → zSt → zSt → zSt → zSt → (Nat → Int64) → Prop) (x4 : Int32) (cs sl : Nat) (u0 : zSt) (u1 : zSt) (u2 : zSt) (u3 : zSt) (u4 : zSt) (u5 : zSt) (u7 : zSt) (u8 : (Nat → Int64)) : Prop :=
  (cs + 1 ≤ 601024 ∧ sl + 6 ≤ 7293034) ∧ (TX6_most (fun (r_7 : Int32) (w_11 : zSt × zSt × zSt × zSt × zSt × zSt) => TX7_most (fun (r_9 : Int32) (u7_8 : zSt) => (r_7 = r_9 → ∀ x4_10 : Int32, x4_10 = x4 + 5 → J23 x4_10 cs sl w_11.1 w_11.2.1 w_11.2.2.1 w_11.2.2.2.1 w_11.2.2.2.2.1 w_11.2.2.2.2.2 u7_8 u8) ∧ (¬ r_7 = r_9 → False))  u7)  u0 u1 u2 u3 u4 u5)
set_option maxHeartbeats 4000000 in
set_option maxRecDepth 100000 in
theorem bk_L_law_1172 {a : Nat → Nat → Nat} {b L : Nat} {xs : Nat → Int32} {J23 : Int32 → Nat → Nat → zSt → zSt → zSt → zSt → zSt → zSt → zSt → (Nat → Int64) → Prop} {x4 : Int32} {cs sl : Nat} {u0 : zSt} {u1 : zSt} {u2 : zSt} {u3 : zSt} {u4 : zSt} {u5 : zSt} {u7 : zSt} {u8 : (Nat → Int64)} (C : zCx p s m args c cL_law 7 RL wsL_law D cI cZ cJ A) (Y : zDy D A s.heap (kl a cI cZ cJ (u0, u1, u2, u3, u4, u5, u7, u8)) H locs) (hl : lv_has ls 7 [(0, .ref b), (1, .ref (a 6 99)), (2, .ref (a 7 99)), (3, .ref (a 8 0)), (4, .int x4)]) (hlt : l.stackTraces = false) (hX : zXe A s s.heap) (hXs : va_X b L xs s s.heap) (hbl : b < s.heap.size) (hbA : ¬ A b) (hret : ∀ {pc : Nat} {H : Heap} {locs : List Loc} {ls : Array Slot} {cs sl : Nat} {u0 : zSt} {u1 : zSt} {u2 : zSt} {u3 : zSt} {u4 : zSt} {u5 : zSt} {u7 : zSt} {u8 : (Nat → Int64)}, zDy D A s.heap (kl a cI cZ cJ (u0, u1, u2, u3, u4, u5, u7, u8)) H locs → (cs ≤ 601024 ∧ sl ≤ 7293034) → decode cL_law pc = .ok (.ireturn, 1) → W p l e room_1 s m args below meth c H locs cs sl Q (F0 m pc ls [.int 1])) (hJ23 : ∀ (x4 : Int32) (cs sl : Nat) (u0 : zSt) (u1 : zSt) (u2 : zSt) (u3 : zSt) (u4 : zSt) (u5 : zSt) (u7 : zSt) (u8 : (Nat → Int64)) (H : Heap) (locs : List Loc) (ls : Array Slot), J23 x4 cs sl u0 u1 u2 u3 u4 u5 u7 u8 → zDy D A s.heap (kl a cI cZ cJ (u0, u1, u2, u3, u4, u5, u7, u8)) H locs → lv_has ls 7 [(0, .ref b), (1, .ref (a 6 99)), (2, .ref (a 7 99)), (3, .ref (a 8 0)), (4, .int x4)] → W p l e room_1 s m args below meth c H locs cs sl Q (F0 m 23 ls [])) (hv : wp_L_law_1172 L xs J23 x4 cs sl u0 u1 u2 u3 u4 u5 u7 u8) : W p l e room_1 s m args below meth c H locs cs sl Q (F0 m 1172 ls []) := by
  unfold wp_L_law_1172 at hv
  obtain ⟨hcs, hv⟩ := hv
  obtain ⟨hx, hb, hml, hown, hts, hK, hA⟩ := id C
  refine lv_aload_n hx hb dL_law_1172 rfl (lv_at hl 1 rfl) ?_
  refine z_callVi C Y (c_X6_most l hv) (frl_6 ..) (cwV 0 hts gL_law_X6_most rfl rfl rfl (by decide +kernel) ⟨Nat.le_of_ble_eq_true rfl, Nat.le_of_ble_eq_true rfl⟩) (ge6_6 ..) rfl rfl rfl hl.1 rfl (Nat.le_of_ble_eq_true rfl) dL_law_1173 ⟨by show _ ≤ 601024; omega, by show _ ≤ 7293034; omega⟩ (fun r_7 ⟨u0_1, u1_2, u2_3, u3_4, u4_5, u5_6⟩ H locs Y hv => ?_)
  refine lv_aload_n hx hb dL_law_1176 rfl (lv_at hl 2 rfl) ?_
  refine z_callVi C Y (c_X7_most l hv) (frl_7 ..) (cwV 0 hts gL_law_X7_most rfl rfl rfl (by decide +kernel) ⟨Nat.le_of_ble_eq_true rfl, Nat.le_of_ble_eq_true rfl⟩) (ge7_7 ..) rfl rfl rfl hl.1 rfl (Nat.le_of_ble_eq_true rfl) dL_law_1177 ⟨by show _ ≤ 601024; omega, by show _ ≤ 7293034; omega⟩ (fun r_9 u7_8 H locs Y hv => ?_)
  refine lv_icmp_eq (tgt := 1375) hx hb dL_law_1180 (by decide) (fun hc => ?_) (fun hc => ?_)
  · have hv := hv.1 hc
    obtain ⟨x4_10, ex4_10, hv⟩ := z_nv hv
    refine lv_iinc (v := x4_10) (lv' := [(4, .int x4_10), (0, .ref b), (1, .ref (a 6 99)), (2, .ref (a 7 99)), (3, .ref (a 8 0))]) hx hb dL_law_1375 hl (k := 4) rfl (by rw [ex4_10]; rfl) (by decide) rfl (fun ls hl => ?_)
    refine lv_goto (tgt := 23) hx hb dL_law_1378 (by decide) ?_
    exact hJ23 _ _ _ _ _ _ _ _ _ _ _ _ _ _ hv Y (lv_sub hl [1, 2, 3, 4, 0] rfl)
  · have hv := hv.2 hc
    refine lv_iconst (v := 0) hx hb dL_law_1183 (by decide) ?_
    exact hv.elim

def wp_L_law_1301 (L : Nat) (xs : Nat → Int32) (J23 : Int32 → Nat → Nat → zSt → zSt → zSt → zSt → zSt → zSt → zSt → (Nat → Int64) → Prop) (x4 : Int32) (cs sl : Nat) (u0 : zSt) (u1 : zSt) (u2 : zSt) (u3 : zSt) (u4 : zSt) (u5 : zSt) (u7 : zSt) (u8 : (Nat → Int64)) : Prop :=
  (cs + 1 ≤ 601024 ∧ sl + 6 ≤ 7293034) ∧ (vp_in (x4 + 1) L ∧ (TL_on (fun (r_8 : Int32) (w_15 : zSt × zSt × zSt × zSt × zSt × zSt × (Nat → Int64)) => ∀ x5_9 : Int32, x5_9 = r_8 → vp_in (x4 + 1) L ∧ (TX7_on (fun (u7_10 : zSt) => TX7_thrown (fun (r_13 : Int32) (u7_12 : zSt) => (r_13 = x5_9 → ∀ x4_14 : Int32, x4_14 = x4 + 5 → J23 x4_14 (cs + 1) (sl + 6) w_15.1 w_15.2.1 w_15.2.2.1 w_15.2.2.2.1 w_15.2.2.2.2.1 w_15.2.2.2.2.2.1 u7_12 w_15.2.2.2.2.2.2) ∧ (¬ r_13 = x5_9 → False))  u7_10) (xs (x4 + 1).toNatClampNeg) u7)) (xs (x4 + 1).toNatClampNeg) u0 u1 u2 u3 u4 u5 u8))
set_option maxHeartbeats 4000000 in
set_option maxRecDepth 100000 in
theorem bk_L_law_1301 {a : Nat → Nat → Nat} {b L : Nat} {xs : Nat → Int32} {J23 : Int32 → Nat → Nat → zSt → zSt → zSt → zSt → zSt → zSt → zSt → (Nat → Int64) → Prop} {x4 : Int32} {cs sl : Nat} {u0 : zSt} {u1 : zSt} {u2 : zSt} {u3 : zSt} {u4 : zSt} {u5 : zSt} {u7 : zSt} {u8 : (Nat → Int64)} (C : zCx p s m args c cL_law 7 RL wsL_law D cI cZ cJ A) (Y : zDy D A s.heap (kl a cI cZ cJ (u0, u1, u2, u3, u4, u5, u7, u8)) H locs) (hl : lv_has ls 7 [(0, .ref b), (1, .ref (a 6 99)), (2, .ref (a 7 99)), (3, .ref (a 8 0)), (4, .int x4)]) (hlt : l.stackTraces = false) (hX : zXe A s s.heap) (hXs : va_X b L xs s s.heap) (hbl : b < s.heap.size) (hbA : ¬ A b) (hret : ∀ {pc : Nat} {H : Heap} {locs : List Loc} {ls : Array Slot} {cs sl : Nat} {u0 : zSt} {u1 : zSt} {u2 : zSt} {u3 : zSt} {u4 : zSt} {u5 : zSt} {u7 : zSt} {u8 : (Nat → Int64)}, zDy D A s.heap (kl a cI cZ cJ (u0, u1, u2, u3, u4, u5, u7, u8)) H locs → (cs ≤ 601024 ∧ sl ≤ 7293034) → decode cL_law pc = .ok (.ireturn, 1) → W p l e room_1 s m args below meth c H locs cs sl Q (F0 m pc ls [.int 1])) (hJ23 : ∀ (x4 : Int32) (cs sl : Nat) (u0 : zSt) (u1 : zSt) (u2 : zSt) (u3 : zSt) (u4 : zSt) (u5 : zSt) (u7 : zSt) (u8 : (Nat → Int64)) (H : Heap) (locs : List Loc) (ls : Array Slot), J23 x4 cs sl u0 u1 u2 u3 u4 u5 u7 u8 → zDy D A s.heap (kl a cI cZ cJ (u0, u1, u2, u3, u4, u5, u7, u8)) H locs → lv_has ls 7 [(0, .ref b), (1, .ref (a 6 99)), (2, .ref (a 7 99)), (3, .ref (a 8 0)), (4, .int x4)] → W p l e room_1 s m args below meth c H locs cs sl Q (F0 m 23 ls [])) (hv : wp_L_law_1301 L xs J23 x4 cs sl u0 u1 u2 u3 u4 u5 u7 u8) : W p l e room_1 s m args below meth c H locs cs sl Q (F0 m 1301 ls []) := by
  unfold wp_L_law_1301 at hv
  obtain ⟨hcs, hv⟩ := hv
  obtain ⟨hx, hb, hml, hown, hts, hK, hA⟩ := id C
  refine lv_aload_n hx hb dL_law_1301 rfl (lv_at hl 1 rfl) ?_
  refine lv_aload_n hx hb dL_law_1302 rfl (lv_at hl 0 rfl) ?_
  refine lv_iload hx hb dL_law_1303 (lv_at hl 4 rfl) ?_
  refine lv_iconst (v := 1) hx hb dL_law_1305 (by decide) ?_
  refine lv_iadd hx hb dL_law_1306 ?_
  obtain ⟨hi, hv⟩ := hv
  refine va_sld hx hb hXs hbl hbA Y.2.2 hi dL_law_1307 ?_
  refine z_callW C Y hX (c_L_on l hlt hv) (frl_w ..) (vx_cwSW 2 hts gL_law_L_on rfl rfl rfl (by decide +kernel) ⟨Nat.le_of_ble_eq_true rfl, Nat.le_of_ble_eq_true rfl⟩) rfl hl.1 rfl (Nat.le_of_ble_eq_true rfl) dL_law_1308 ⟨by show _ ≤ 601024; omega, by show _ ≤ 7293034; omega⟩ (fun r_8 ⟨u0_1, u1_2, u2_3, u3_4, u4_5, u5_6, u8_7⟩ H locs Y hv => ?_)
  refine z_topi hv (fun x5_9 ex5_9 hv => ?_)
  refine lv_istore (lv' := [(5, .int x5_9), (0, .ref b), (1, .ref (a 6 99)), (2, .ref (a 7 99)), (3, .ref (a 8 0)), (4, .int x4)]) hx hb dL_law_1311 hl (by decide) rfl (fun ls hl => ?_)
  refine lv_aload_n hx hb dL_law_1313 rfl (lv_at hl 3 rfl) ?_
  refine lv_aload_n hx hb dL_law_1314 rfl (lv_at hl 1 rfl) ?_
  refine lv_iload hx hb dL_law_1315 (lv_at hl 5 rfl) ?_
  refine lv_iconst (v := 1) hx hb dL_law_1317 (by decide) ?_
  refine lv_iadd hx hb dL_law_1318 ?_
  obtain ⟨hi, hv⟩ := hv
  refine va_sld hx hb hXs hbl hbA Y.2.2 hi dL_law_1319 ?_
  refine z_callVv C Y (c_X7_on l hv) (frl_7 ..) (cwV 1 hts gL_law_X7_on rfl rfl rfl (by decide +kernel) ⟨Nat.le_of_ble_eq_true rfl, Nat.le_of_ble_eq_true rfl⟩) (ge7_7 ..) rfl rfl rfl hl.1 rfl (Nat.le_of_ble_eq_true rfl) dL_law_1320 ⟨by show _ ≤ 601024; omega, by show _ ≤ 7293034; omega⟩ (fun u7_10 H locs Y hv => ?_)
  refine lv_aload_n hx hb dL_law_1323 rfl (lv_at hl 3 rfl) ?_
  refine z_callVi C Y (c_X7_thrown l hv) (frl_7 ..) (cwV 0 hts gL_law_X7_thrown rfl rfl rfl (by decide +kernel) ⟨Nat.le_of_ble_eq_true rfl, Nat.le_of_ble_eq_true rfl⟩) (ge7_7 ..) rfl rfl rfl hl.1 rfl (Nat.le_of_ble_eq_true rfl) dL_law_1324 ⟨by show _ ≤ 601024; omega, by show _ ≤ 7293034; omega⟩ (fun r_13 u7_12 H locs Y hv => ?_)
  refine lv_iload hx hb dL_law_1327 (lv_at hl 0 rfl) ?_
  refine lv_icmp_eq (tgt := 1334) hx hb dL_law_1329 (by decide) (fun hc => ?_) (fun hc => ?_)
  · have hv := hv.1 hc
    refine lv_goto (tgt := 1375) hx hb dL_law_1334 (by decide) ?_
    obtain ⟨x4_14, ex4_14, hv⟩ := z_nv hv
    refine lv_iinc (v := x4_14) (lv' := [(4, .int x4_14), (5, .int x5_9), (0, .ref b), (1, .ref (a 6 99)), (2, .ref (a 7 99)), (3, .ref (a 8 0))]) hx hb dL_law_1375 hl (k := 5) rfl (by rw [ex4_14]; rfl) (by decide) rfl (fun ls hl => ?_)
    refine lv_goto (tgt := 23) hx hb dL_law_1378 (by decide) ?_
    exact hJ23 _ _ _ _ _ _ _ _ _ _ _ _ _ _ hv Y (lv_sub hl [2, 3, 4, 5, 0] rfl)
  · have hv := hv.2 hc
    refine lv_iconst (v := 0) hx hb dL_law_1332 (by decide) ?_
    exact hv.elim

def wp_L_law_672 (L : Nat) (xs : Nat → Int32) (J23 : Int32 → Nat → Nat → zSt → zSt → zSt → zSt → zSt → zSt → zSt → (Nat → Int64) → Prop) (x4 : Int32) (cs sl : Nat) (u0 : zSt) (u1 : zSt) (u2 : zSt) (u3 : zSt) (u4 : zSt) (u5 : zSt) (u7 : zSt) (u8 : (Nat → Int64)) : Prop :=
  (cs + 1 ≤ 601024 ∧ sl + 6 ≤ 7293034) ∧ (vp_in (x4 + 1) L ∧ (vp_in (x4 + 2) L ∧ (TL_look (fun (r_8 : Int32) (w_17 : zSt × zSt × zSt × zSt × zSt × zSt × (Nat → Int64)) => ∀ x5_9 : Int32, x5_9 = r_8 → vp_in (x4 + 1) L ∧ (vp_in (x4 + 2) L ∧ (TX7_look (fun (r_11 : Int32) (u7_10 : zSt) => ∀ x6_12 : Int32, x6_12 = r_11 → TX7_thrown (fun (r_14 : Int32) (u7_13 : zSt) => (r_14 = x5_9 → (x5_9 = (0 : Int32) → ((lg_cmp (w_17.2.2.2.2.2.2 (0 : Int32).toNatClampNeg) ((x6_12 : Int32).toInt64)) = (0 : Int32) → ∀ x4_16 : Int32, x4_16 = x4 + 5 → J23 x4_16 (cs + 1) (sl + 6) w_17.1 w_17.2.1 w_17.2.2.1 w_17.2.2.2.1 w_17.2.2.2.2.1 w_17.2.2.2.2.2.1 u7_13 w_17.2.2.2.2.2.2) ∧ (¬ (lg_cmp (w_17.2.2.2.2.2.2 (0 : Int32).toNatClampNeg) ((x6_12 : Int32).toInt64)) = (0 : Int32) → False)) ∧ (¬ x5_9 = (0 : Int32) → ∀ x4_15 : Int32, x4_15 = x4 + 5 → J23 x4_15 (cs + 1) (sl + 6) w_17.1 w_17.2.1 w_17.2.2.1 w_17.2.2.2.1 w_17.2.2.2.2.1 w_17.2.2.2.2.2.1 u7_13 w_17.2.2.2.2.2.2)) ∧ (¬ r_14 = x5_9 → False))  u7_10) (xs (x4 + 1).toNatClampNeg) (xs (x4 + 2).toNatClampNeg) u7))) (xs (x4 + 1).toNatClampNeg) (xs (x4 + 2).toNatClampNeg) u0 u1 u2 u3 u4 u5 u8)))
set_option maxHeartbeats 4000000 in
set_option maxRecDepth 100000 in
theorem bk_L_law_672 {a : Nat → Nat → Nat} {b L : Nat} {xs : Nat → Int32} {J23 : Int32 → Nat → Nat → zSt → zSt → zSt → zSt → zSt → zSt → zSt → (Nat → Int64) → Prop} {x4 : Int32} {cs sl : Nat} {u0 : zSt} {u1 : zSt} {u2 : zSt} {u3 : zSt} {u4 : zSt} {u5 : zSt} {u7 : zSt} {u8 : (Nat → Int64)} (C : zCx p s m args c cL_law 7 RL wsL_law D cI cZ cJ A) (Y : zDy D A s.heap (kl a cI cZ cJ (u0, u1, u2, u3, u4, u5, u7, u8)) H locs) (hl : lv_has ls 7 [(0, .ref b), (1, .ref (a 6 99)), (2, .ref (a 7 99)), (3, .ref (a 8 0)), (4, .int x4)]) (hlt : l.stackTraces = false) (hX : zXe A s s.heap) (hXs : va_X b L xs s s.heap) (hbl : b < s.heap.size) (hbA : ¬ A b) (hret : ∀ {pc : Nat} {H : Heap} {locs : List Loc} {ls : Array Slot} {cs sl : Nat} {u0 : zSt} {u1 : zSt} {u2 : zSt} {u3 : zSt} {u4 : zSt} {u5 : zSt} {u7 : zSt} {u8 : (Nat → Int64)}, zDy D A s.heap (kl a cI cZ cJ (u0, u1, u2, u3, u4, u5, u7, u8)) H locs → (cs ≤ 601024 ∧ sl ≤ 7293034) → decode cL_law pc = .ok (.ireturn, 1) → W p l e room_1 s m args below meth c H locs cs sl Q (F0 m pc ls [.int 1])) (hJ23 : ∀ (x4 : Int32) (cs sl : Nat) (u0 : zSt) (u1 : zSt) (u2 : zSt) (u3 : zSt) (u4 : zSt) (u5 : zSt) (u7 : zSt) (u8 : (Nat → Int64)) (H : Heap) (locs : List Loc) (ls : Array Slot), J23 x4 cs sl u0 u1 u2 u3 u4 u5 u7 u8 → zDy D A s.heap (kl a cI cZ cJ (u0, u1, u2, u3, u4, u5, u7, u8)) H locs → lv_has ls 7 [(0, .ref b), (1, .ref (a 6 99)), (2, .ref (a 7 99)), (3, .ref (a 8 0)), (4, .int x4)] → W p l e room_1 s m args below meth c H locs cs sl Q (F0 m 23 ls [])) (hv : wp_L_law_672 L xs J23 x4 cs sl u0 u1 u2 u3 u4 u5 u7 u8) : W p l e room_1 s m args below meth c H locs cs sl Q (F0 m 672 ls []) := by
  unfold wp_L_law_672 at hv
  obtain ⟨hcs, hv⟩ := hv
  obtain ⟨hx, hb, hml, hown, hts, hK, hA⟩ := id C
  refine lv_aload_n hx hb dL_law_672 rfl (lv_at hl 1 rfl) ?_
  refine lv_aload_n hx hb dL_law_673 rfl (lv_at hl 0 rfl) ?_
  refine lv_iload hx hb dL_law_674 (lv_at hl 4 rfl) ?_
  refine lv_iconst (v := 1) hx hb dL_law_676 (by decide) ?_
  refine lv_iadd hx hb dL_law_677 ?_
  obtain ⟨hi, hv⟩ := hv
  refine va_sld hx hb hXs hbl hbA Y.2.2 hi dL_law_678 ?_
  refine lv_aload_n hx hb dL_law_679 rfl (lv_at hl 0 rfl) ?_
  refine lv_iload hx hb dL_law_680 (lv_at hl 4 rfl) ?_
  refine lv_iconst (v := 2) hx hb dL_law_682 (by decide) ?_
  refine lv_iadd hx hb dL_law_683 ?_
  obtain ⟨hi, hv⟩ := hv
  refine va_sld hx hb hXs hbl hbA Y.2.2 hi dL_law_684 ?_
  refine lv_aload_n hx hb dL_law_685 rfl (lv_at hl 3 rfl) ?_
  refine z_callW C Y hX (c_L_look l hlt hv) (frl_w ..) (vx_cwSW 4 hts gL_law_L_look rfl rfl rfl (by decide +kernel) ⟨Nat.le_of_ble_eq_true rfl, Nat.le_of_ble_eq_true rfl⟩) rfl hl.1 rfl (Nat.le_of_ble_eq_true rfl) dL_law_686 ⟨by show _ ≤ 601024; omega, by show _ ≤ 7293034; omega⟩ (fun r_8 ⟨u0_1, u1_2, u2_3, u3_4, u4_5, u5_6, u8_7⟩ H locs Y hv => ?_)
  refine z_topi hv (fun x5_9 ex5_9 hv => ?_)
  refine lv_istore (lv' := [(5, .int x5_9), (0, .ref b), (1, .ref (a 6 99)), (2, .ref (a 7 99)), (3, .ref (a 8 0)), (4, .int x4)]) hx hb dL_law_689 hl (by decide) rfl (fun ls hl => ?_)
  refine lv_aload_n hx hb dL_law_691 rfl (lv_at hl 3 rfl) ?_
  refine lv_aload_n hx hb dL_law_692 rfl (lv_at hl 1 rfl) ?_
  refine lv_iload hx hb dL_law_693 (lv_at hl 5 rfl) ?_
  refine lv_iconst (v := 1) hx hb dL_law_695 (by decide) ?_
  refine lv_iadd hx hb dL_law_696 ?_
  obtain ⟨hi, hv⟩ := hv
  refine va_sld hx hb hXs hbl hbA Y.2.2 hi dL_law_697 ?_
  refine lv_aload_n hx hb dL_law_698 rfl (lv_at hl 1 rfl) ?_
  refine lv_iload hx hb dL_law_699 (lv_at hl 5 rfl) ?_
  refine lv_iconst (v := 2) hx hb dL_law_701 (by decide) ?_
  refine lv_iadd hx hb dL_law_702 ?_
  obtain ⟨hi, hv⟩ := hv
  refine va_sld hx hb hXs hbl hbA Y.2.2 hi dL_law_703 ?_
  refine z_callVi C Y (c_X7_look l hv) (frl_7 ..) (cwV 2 hts gL_law_X7_look rfl rfl rfl (by decide +kernel) ⟨Nat.le_of_ble_eq_true rfl, Nat.le_of_ble_eq_true rfl⟩) (ge7_7 ..) rfl rfl rfl hl.1 rfl (Nat.le_of_ble_eq_true rfl) dL_law_704 ⟨by show _ ≤ 601024; omega, by show _ ≤ 7293034; omega⟩ (fun r_11 u7_10 H locs Y hv => ?_)
  refine z_topi hv (fun x6_12 ex6_12 hv => ?_)
  refine lv_istore (lv' := [(6, .int x6_12), (5, .int x5_9), (0, .ref b), (1, .ref (a 6 99)), (2, .ref (a 7 99)), (3, .ref (a 8 0)), (4, .int x4)]) hx hb dL_law_707 hl (by decide) rfl (fun ls hl => ?_)
  refine lv_aload_n hx hb dL_law_709 rfl (lv_at hl 4 rfl) ?_
  refine z_callVi C Y (c_X7_thrown l hv) (frl_7 ..) (cwV 0 hts gL_law_X7_thrown rfl rfl rfl (by decide +kernel) ⟨Nat.le_of_ble_eq_true rfl, Nat.le_of_ble_eq_true rfl⟩) (ge7_7 ..) rfl rfl rfl hl.1 rfl (Nat.le_of_ble_eq_true rfl) dL_law_710 ⟨by show _ ≤ 601024; omega, by show _ ≤ 7293034; omega⟩ (fun r_14 u7_13 H locs Y hv => ?_)
  refine lv_iload hx hb dL_law_713 (lv_at hl 1 rfl) ?_
  refine lv_icmp_eq (tgt := 720) hx hb dL_law_715 (by decide) (fun hc => ?_) (fun hc => ?_)
  · have hv := hv.1 hc
    refine lv_iload hx hb dL_law_720 (lv_at hl 1 rfl) ?_
    refine lv_if_ne (tgt := 737) hx hb dL_law_722 (by decide) (fun hc => ?_) (fun hc => ?_)
    · have hv := hv.2 hc
      refine lv_goto (tgt := 1375) hx hb dL_law_737 (by decide) ?_
      obtain ⟨x4_15, ex4_15, hv⟩ := z_nv hv
      refine lv_iinc (v := x4_15) (lv' := [(4, .int x4_15), (6, .int x6_12), (5, .int x5_9), (0, .ref b), (1, .ref (a 6 99)), (2, .ref (a 7 99)), (3, .ref (a 8 0))]) hx hb dL_law_1375 hl (k := 6) rfl (by rw [ex4_15]; rfl) (by decide) rfl (fun ls hl => ?_)
      refine lv_goto (tgt := 23) hx hb dL_law_1378 (by decide) ?_
      exact hJ23 _ _ _ _ _ _ _ _ _ _ _ _ _ _ hv Y (lv_sub hl [3, 4, 5, 6, 0] rfl)
    · have hv := hv.1 hc
      refine lv_aload_n hx hb dL_law_725 rfl (lv_at hl 5 rfl) ?_
      refine lv_iconst (v := 0) hx hb dL_law_726 (by decide) ?_
      refine z_ldJ C Y (pal_8_0 ..) z_in01 dL_law_727 ?_
      refine lv_iload hx hb dL_law_728 (lv_at hl 0 rfl) ?_
      refine lv_i2l hx hb dL_law_730 rfl ?_
      refine W.lcmp hx hb dL_law_731 ?_
      refine lv_if_eq (tgt := 737) hx hb dL_law_732 (by decide) (fun hc => ?_) (fun hc => ?_)
      · have hv := hv.1 hc
        refine lv_goto (tgt := 1375) hx hb dL_law_737 (by decide) ?_
        obtain ⟨x4_16, ex4_16, hv⟩ := z_nv hv
        refine lv_iinc (v := x4_16) (lv' := [(4, .int x4_16), (6, .int x6_12), (5, .int x5_9), (0, .ref b), (1, .ref (a 6 99)), (2, .ref (a 7 99)), (3, .ref (a 8 0))]) hx hb dL_law_1375 hl (k := 6) rfl (by rw [ex4_16]; rfl) (by decide) rfl (fun ls hl => ?_)
        refine lv_goto (tgt := 23) hx hb dL_law_1378 (by decide) ?_
        exact hJ23 _ _ _ _ _ _ _ _ _ _ _ _ _ _ hv Y (lv_sub hl [3, 4, 5, 6, 0] rfl)
      · have hv := hv.2 hc
        refine lv_iconst (v := 0) hx hb dL_law_735 (by decide) ?_
        exact hv.elim
  · have hv := hv.2 hc
    refine lv_iconst (v := 0) hx hb dL_law_718 (by decide) ?_
    exact hv.elim

def wp_L_law_1185 (L : Nat) (xs : Nat → Int32) (J23 : Int32 → Nat → Nat → zSt → zSt → zSt → zSt → zSt → zSt → zSt → (Nat → Int64) → Prop) (x4 : Int32) (cs sl : Nat) (u0 : zSt) (u1 : zSt) (u2 : zSt) (u3 : zSt) (u4 : zSt) (u5 : zSt) (u7 : zSt) (u8 : (Nat → Int64)) : Prop :=
  (cs + 1 ≤ 601024 ∧ sl + 6 ≤ 7293034) ∧ (vp_in (x4 + 1) L ∧ (vp_in (x4 + 2) L ∧ (vp_in (x4 + 3) L ∧ (TL_change (fun (r_8 : Int32) (w_15 : zSt × zSt × zSt × zSt × zSt × zSt × (Nat → Int64)) => ∀ x5_9 : Int32, x5_9 = r_8 → vp_in (x4 + 1) L ∧ (vp_in (x4 + 2) L ∧ (vp_in (x4 + 3) L ∧ (TX7_change (fun (u7_10 : zSt) => TX7_thrown (fun (r_13 : Int32) (u7_12 : zSt) => (r_13 = x5_9 → ∀ x4_14 : Int32, x4_14 = x4 + 5 → J23 x4_14 (cs + 1) (sl + 6) w_15.1 w_15.2.1 w_15.2.2.1 w_15.2.2.2.1 w_15.2.2.2.2.1 w_15.2.2.2.2.2.1 u7_12 w_15.2.2.2.2.2.2) ∧ (¬ r_13 = x5_9 → False))  u7_10) (xs (x4 + 1).toNatClampNeg) (xs (x4 + 2).toNatClampNeg) (xs (x4 + 3).toNatClampNeg) u7)))) (xs (x4 + 1).toNatClampNeg) (xs (x4 + 2).toNatClampNeg) (xs (x4 + 3).toNatClampNeg) u0 u1 u2 u3 u4 u5 u8))))
set_option maxHeartbeats 4000000 in
set_option maxRecDepth 100000 in
theorem bk_L_law_1185 {a : Nat → Nat → Nat} {b L : Nat} {xs : Nat → Int32} {J23 : Int32 → Nat → Nat → zSt → zSt → zSt → zSt → zSt → zSt → zSt → (Nat → Int64) → Prop} {x4 : Int32} {cs sl : Nat} {u0 : zSt} {u1 : zSt} {u2 : zSt} {u3 : zSt} {u4 : zSt} {u5 : zSt} {u7 : zSt} {u8 : (Nat → Int64)} (C : zCx p s m args c cL_law 7 RL wsL_law D cI cZ cJ A) (Y : zDy D A s.heap (kl a cI cZ cJ (u0, u1, u2, u3, u4, u5, u7, u8)) H locs) (hl : lv_has ls 7 [(0, .ref b), (1, .ref (a 6 99)), (2, .ref (a 7 99)), (3, .ref (a 8 0)), (4, .int x4)]) (hlt : l.stackTraces = false) (hX : zXe A s s.heap) (hXs : va_X b L xs s s.heap) (hbl : b < s.heap.size) (hbA : ¬ A b) (hret : ∀ {pc : Nat} {H : Heap} {locs : List Loc} {ls : Array Slot} {cs sl : Nat} {u0 : zSt} {u1 : zSt} {u2 : zSt} {u3 : zSt} {u4 : zSt} {u5 : zSt} {u7 : zSt} {u8 : (Nat → Int64)}, zDy D A s.heap (kl a cI cZ cJ (u0, u1, u2, u3, u4, u5, u7, u8)) H locs → (cs ≤ 601024 ∧ sl ≤ 7293034) → decode cL_law pc = .ok (.ireturn, 1) → W p l e room_1 s m args below meth c H locs cs sl Q (F0 m pc ls [.int 1])) (hJ23 : ∀ (x4 : Int32) (cs sl : Nat) (u0 : zSt) (u1 : zSt) (u2 : zSt) (u3 : zSt) (u4 : zSt) (u5 : zSt) (u7 : zSt) (u8 : (Nat → Int64)) (H : Heap) (locs : List Loc) (ls : Array Slot), J23 x4 cs sl u0 u1 u2 u3 u4 u5 u7 u8 → zDy D A s.heap (kl a cI cZ cJ (u0, u1, u2, u3, u4, u5, u7, u8)) H locs → lv_has ls 7 [(0, .ref b), (1, .ref (a 6 99)), (2, .ref (a 7 99)), (3, .ref (a 8 0)), (4, .int x4)] → W p l e room_1 s m args below meth c H locs cs sl Q (F0 m 23 ls [])) (hv : wp_L_law_1185 L xs J23 x4 cs sl u0 u1 u2 u3 u4 u5 u7 u8) : W p l e room_1 s m args below meth c H locs cs sl Q (F0 m 1185 ls []) := by
  unfold wp_L_law_1185 at hv
  obtain ⟨hcs, hv⟩ := hv
  obtain ⟨hx, hb, hml, hown, hts, hK, hA⟩ := id C
  refine lv_aload_n hx hb dL_law_1185 rfl (lv_at hl 1 rfl) ?_
  refine lv_aload_n hx hb dL_law_1186 rfl (lv_at hl 0 rfl) ?_
  refine lv_iload hx hb dL_law_1187 (lv_at hl 4 rfl) ?_
  refine lv_iconst (v := 1) hx hb dL_law_1189 (by decide) ?_
  refine lv_iadd hx hb dL_law_1190 ?_
  obtain ⟨hi, hv⟩ := hv
  refine va_sld hx hb hXs hbl hbA Y.2.2 hi dL_law_1191 ?_
  refine lv_aload_n hx hb dL_law_1192 rfl (lv_at hl 0 rfl) ?_
  refine lv_iload hx hb dL_law_1193 (lv_at hl 4 rfl) ?_
  refine lv_iconst (v := 2) hx hb dL_law_1195 (by decide) ?_
  refine lv_iadd hx hb dL_law_1196 ?_
  obtain ⟨hi, hv⟩ := hv
  refine va_sld hx hb hXs hbl hbA Y.2.2 hi dL_law_1197 ?_
  refine lv_aload_n hx hb dL_law_1198 rfl (lv_at hl 0 rfl) ?_
  refine lv_iload hx hb dL_law_1199 (lv_at hl 4 rfl) ?_
  refine lv_iconst (v := 3) hx hb dL_law_1201 (by decide) ?_
  refine lv_iadd hx hb dL_law_1202 ?_
  obtain ⟨hi, hv⟩ := hv
  refine va_sld hx hb hXs hbl hbA Y.2.2 hi dL_law_1203 ?_
  refine z_callW C Y hX (c_L_change l hlt hv) (frl_w ..) (vx_cwSW 4 hts gL_law_L_change rfl rfl rfl (by decide +kernel) ⟨Nat.le_of_ble_eq_true rfl, Nat.le_of_ble_eq_true rfl⟩) rfl hl.1 rfl (Nat.le_of_ble_eq_true rfl) dL_law_1204 ⟨by show _ ≤ 601024; omega, by show _ ≤ 7293034; omega⟩ (fun r_8 ⟨u0_1, u1_2, u2_3, u3_4, u4_5, u5_6, u8_7⟩ H locs Y hv => ?_)
  refine z_topi hv (fun x5_9 ex5_9 hv => ?_)
  refine lv_istore (lv' := [(5, .int x5_9), (0, .ref b), (1, .ref (a 6 99)), (2, .ref (a 7 99)), (3, .ref (a 8 0)), (4, .int x4)]) hx hb dL_law_1207 hl (by decide) rfl (fun ls hl => ?_)
  refine lv_aload_n hx hb dL_law_1209 rfl (lv_at hl 3 rfl) ?_
  refine lv_aload_n hx hb dL_law_1210 rfl (lv_at hl 1 rfl) ?_
  refine lv_iload hx hb dL_law_1211 (lv_at hl 5 rfl) ?_
  refine lv_iconst (v := 1) hx hb dL_law_1213 (by decide) ?_
  refine lv_iadd hx hb dL_law_1214 ?_
  obtain ⟨hi, hv⟩ := hv
  refine va_sld hx hb hXs hbl hbA Y.2.2 hi dL_law_1215 ?_
  refine lv_aload_n hx hb dL_law_1216 rfl (lv_at hl 1 rfl) ?_
  refine lv_iload hx hb dL_law_1217 (lv_at hl 5 rfl) ?_
  refine lv_iconst (v := 2) hx hb dL_law_1219 (by decide) ?_
  refine lv_iadd hx hb dL_law_1220 ?_
  obtain ⟨hi, hv⟩ := hv
  refine va_sld hx hb hXs hbl hbA Y.2.2 hi dL_law_1221 ?_
  refine lv_aload_n hx hb dL_law_1222 rfl (lv_at hl 1 rfl) ?_
  refine lv_iload hx hb dL_law_1223 (lv_at hl 5 rfl) ?_
  refine lv_iconst (v := 3) hx hb dL_law_1225 (by decide) ?_
  refine lv_iadd hx hb dL_law_1226 ?_
  obtain ⟨hi, hv⟩ := hv
  refine va_sld hx hb hXs hbl hbA Y.2.2 hi dL_law_1227 ?_
  refine z_callVv C Y (c_X7_change l hv) (frl_7 ..) (cwV 3 hts gL_law_X7_change rfl rfl rfl (by decide +kernel) ⟨Nat.le_of_ble_eq_true rfl, Nat.le_of_ble_eq_true rfl⟩) (ge7_7 ..) rfl rfl rfl hl.1 rfl (Nat.le_of_ble_eq_true rfl) dL_law_1228 ⟨by show _ ≤ 601024; omega, by show _ ≤ 7293034; omega⟩ (fun u7_10 H locs Y hv => ?_)
  refine lv_aload_n hx hb dL_law_1231 rfl (lv_at hl 3 rfl) ?_
  refine z_callVi C Y (c_X7_thrown l hv) (frl_7 ..) (cwV 0 hts gL_law_X7_thrown rfl rfl rfl (by decide +kernel) ⟨Nat.le_of_ble_eq_true rfl, Nat.le_of_ble_eq_true rfl⟩) (ge7_7 ..) rfl rfl rfl hl.1 rfl (Nat.le_of_ble_eq_true rfl) dL_law_1232 ⟨by show _ ≤ 601024; omega, by show _ ≤ 7293034; omega⟩ (fun r_13 u7_12 H locs Y hv => ?_)
  refine lv_iload hx hb dL_law_1235 (lv_at hl 0 rfl) ?_
  refine lv_icmp_eq (tgt := 1242) hx hb dL_law_1237 (by decide) (fun hc => ?_) (fun hc => ?_)
  · have hv := hv.1 hc
    refine lv_goto (tgt := 1375) hx hb dL_law_1242 (by decide) ?_
    obtain ⟨x4_14, ex4_14, hv⟩ := z_nv hv
    refine lv_iinc (v := x4_14) (lv' := [(4, .int x4_14), (5, .int x5_9), (0, .ref b), (1, .ref (a 6 99)), (2, .ref (a 7 99)), (3, .ref (a 8 0))]) hx hb dL_law_1375 hl (k := 5) rfl (by rw [ex4_14]; rfl) (by decide) rfl (fun ls hl => ?_)
    refine lv_goto (tgt := 23) hx hb dL_law_1378 (by decide) ?_
    exact hJ23 _ _ _ _ _ _ _ _ _ _ _ _ _ _ hv Y (lv_sub hl [2, 3, 4, 5, 0] rfl)
  · have hv := hv.2 hc
    refine lv_iconst (v := 0) hx hb dL_law_1240 (by decide) ?_
    exact hv.elim

def wp_L_law_296 (L : Nat) (xs : Nat → Int32) (J23 : Int32 → Nat → Nat → zSt → zSt → zSt → zSt → zSt → zSt → zSt → (Nat → Int64) → Prop) (x4 : Int32) (cs sl : Nat) (u0 : zSt) (u1 : zSt) (u2 : zSt) (u3 : zSt) (u4 : zSt) (u5 : zSt) (u7 : zSt) (u8 : (Nat → Int64)) : Prop :=
  (cs + 1 ≤ 601024 ∧ sl + 6 ≤ 7293034) ∧ (vp_in (x4 + 1) L ∧ (vp_in (x4 + 2) L ∧ (TL_blend (fun (r_8 : Int32) (w_17 : zSt × zSt × zSt × zSt × zSt × zSt × (Nat → Int64)) => ∀ x5_9 : Int32, x5_9 = r_8 → vp_in (x4 + 1) L ∧ (vp_in (x4 + 2) L ∧ (TX7_blend (fun (r_11 : Int32) (u7_10 : zSt) => ∀ x6_12 : Int32, x6_12 = r_11 → TX7_thrown (fun (r_14 : Int32) (u7_13 : zSt) => (r_14 = x5_9 → (x5_9 = (0 : Int32) → ((lg_cmp (w_17.2.2.2.2.2.2 (0 : Int32).toNatClampNeg) ((x6_12 : Int32).toInt64)) = (0 : Int32) → ∀ x4_16 : Int32, x4_16 = x4 + 5 → J23 x4_16 (cs + 1) (sl + 6) w_17.1 w_17.2.1 w_17.2.2.1 w_17.2.2.2.1 w_17.2.2.2.2.1 w_17.2.2.2.2.2.1 u7_13 w_17.2.2.2.2.2.2) ∧ (¬ (lg_cmp (w_17.2.2.2.2.2.2 (0 : Int32).toNatClampNeg) ((x6_12 : Int32).toInt64)) = (0 : Int32) → False)) ∧ (¬ x5_9 = (0 : Int32) → ∀ x4_15 : Int32, x4_15 = x4 + 5 → J23 x4_15 (cs + 1) (sl + 6) w_17.1 w_17.2.1 w_17.2.2.1 w_17.2.2.2.1 w_17.2.2.2.2.1 w_17.2.2.2.2.2.1 u7_13 w_17.2.2.2.2.2.2)) ∧ (¬ r_14 = x5_9 → False))  u7_10) (xs (x4 + 1).toNatClampNeg) (xs (x4 + 2).toNatClampNeg) u7))) (xs (x4 + 1).toNatClampNeg) (xs (x4 + 2).toNatClampNeg) u0 u1 u2 u3 u4 u5 u8)))
set_option maxHeartbeats 4000000 in
set_option maxRecDepth 100000 in
theorem bk_L_law_296 {a : Nat → Nat → Nat} {b L : Nat} {xs : Nat → Int32} {J23 : Int32 → Nat → Nat → zSt → zSt → zSt → zSt → zSt → zSt → zSt → (Nat → Int64) → Prop} {x4 : Int32} {cs sl : Nat} {u0 : zSt} {u1 : zSt} {u2 : zSt} {u3 : zSt} {u4 : zSt} {u5 : zSt} {u7 : zSt} {u8 : (Nat → Int64)} (C : zCx p s m args c cL_law 7 RL wsL_law D cI cZ cJ A) (Y : zDy D A s.heap (kl a cI cZ cJ (u0, u1, u2, u3, u4, u5, u7, u8)) H locs) (hl : lv_has ls 7 [(0, .ref b), (1, .ref (a 6 99)), (2, .ref (a 7 99)), (3, .ref (a 8 0)), (4, .int x4)]) (hlt : l.stackTraces = false) (hX : zXe A s s.heap) (hXs : va_X b L xs s s.heap) (hbl : b < s.heap.size) (hbA : ¬ A b) (hret : ∀ {pc : Nat} {H : Heap} {locs : List Loc} {ls : Array Slot} {cs sl : Nat} {u0 : zSt} {u1 : zSt} {u2 : zSt} {u3 : zSt} {u4 : zSt} {u5 : zSt} {u7 : zSt} {u8 : (Nat → Int64)}, zDy D A s.heap (kl a cI cZ cJ (u0, u1, u2, u3, u4, u5, u7, u8)) H locs → (cs ≤ 601024 ∧ sl ≤ 7293034) → decode cL_law pc = .ok (.ireturn, 1) → W p l e room_1 s m args below meth c H locs cs sl Q (F0 m pc ls [.int 1])) (hJ23 : ∀ (x4 : Int32) (cs sl : Nat) (u0 : zSt) (u1 : zSt) (u2 : zSt) (u3 : zSt) (u4 : zSt) (u5 : zSt) (u7 : zSt) (u8 : (Nat → Int64)) (H : Heap) (locs : List Loc) (ls : Array Slot), J23 x4 cs sl u0 u1 u2 u3 u4 u5 u7 u8 → zDy D A s.heap (kl a cI cZ cJ (u0, u1, u2, u3, u4, u5, u7, u8)) H locs → lv_has ls 7 [(0, .ref b), (1, .ref (a 6 99)), (2, .ref (a 7 99)), (3, .ref (a 8 0)), (4, .int x4)] → W p l e room_1 s m args below meth c H locs cs sl Q (F0 m 23 ls [])) (hv : wp_L_law_296 L xs J23 x4 cs sl u0 u1 u2 u3 u4 u5 u7 u8) : W p l e room_1 s m args below meth c H locs cs sl Q (F0 m 296 ls []) := by
  unfold wp_L_law_296 at hv
  obtain ⟨hcs, hv⟩ := hv
  obtain ⟨hx, hb, hml, hown, hts, hK, hA⟩ := id C
  refine lv_aload_n hx hb dL_law_296 rfl (lv_at hl 1 rfl) ?_
  refine lv_aload_n hx hb dL_law_297 rfl (lv_at hl 0 rfl) ?_
  refine lv_iload hx hb dL_law_298 (lv_at hl 4 rfl) ?_
  refine lv_iconst (v := 1) hx hb dL_law_300 (by decide) ?_
  refine lv_iadd hx hb dL_law_301 ?_
  obtain ⟨hi, hv⟩ := hv
  refine va_sld hx hb hXs hbl hbA Y.2.2 hi dL_law_302 ?_
  refine lv_aload_n hx hb dL_law_303 rfl (lv_at hl 0 rfl) ?_
  refine lv_iload hx hb dL_law_304 (lv_at hl 4 rfl) ?_
  refine lv_iconst (v := 2) hx hb dL_law_306 (by decide) ?_
  refine lv_iadd hx hb dL_law_307 ?_
  obtain ⟨hi, hv⟩ := hv
  refine va_sld hx hb hXs hbl hbA Y.2.2 hi dL_law_308 ?_
  refine lv_aload_n hx hb dL_law_309 rfl (lv_at hl 3 rfl) ?_
  refine z_callW C Y hX (c_L_blend l hlt hv) (frl_w ..) (vx_cwSW 4 hts gL_law_L_blend rfl rfl rfl (by decide +kernel) ⟨Nat.le_of_ble_eq_true rfl, Nat.le_of_ble_eq_true rfl⟩) rfl hl.1 rfl (Nat.le_of_ble_eq_true rfl) dL_law_310 ⟨by show _ ≤ 601024; omega, by show _ ≤ 7293034; omega⟩ (fun r_8 ⟨u0_1, u1_2, u2_3, u3_4, u4_5, u5_6, u8_7⟩ H locs Y hv => ?_)
  refine z_topi hv (fun x5_9 ex5_9 hv => ?_)
  refine lv_istore (lv' := [(5, .int x5_9), (0, .ref b), (1, .ref (a 6 99)), (2, .ref (a 7 99)), (3, .ref (a 8 0)), (4, .int x4)]) hx hb dL_law_313 hl (by decide) rfl (fun ls hl => ?_)
  refine lv_aload_n hx hb dL_law_315 rfl (lv_at hl 3 rfl) ?_
  refine lv_aload_n hx hb dL_law_316 rfl (lv_at hl 1 rfl) ?_
  refine lv_iload hx hb dL_law_317 (lv_at hl 5 rfl) ?_
  refine lv_iconst (v := 1) hx hb dL_law_319 (by decide) ?_
  refine lv_iadd hx hb dL_law_320 ?_
  obtain ⟨hi, hv⟩ := hv
  refine va_sld hx hb hXs hbl hbA Y.2.2 hi dL_law_321 ?_
  refine lv_aload_n hx hb dL_law_322 rfl (lv_at hl 1 rfl) ?_
  refine lv_iload hx hb dL_law_323 (lv_at hl 5 rfl) ?_
  refine lv_iconst (v := 2) hx hb dL_law_325 (by decide) ?_
  refine lv_iadd hx hb dL_law_326 ?_
  obtain ⟨hi, hv⟩ := hv
  refine va_sld hx hb hXs hbl hbA Y.2.2 hi dL_law_327 ?_
  refine z_callVi C Y (c_X7_blend l hv) (frl_7 ..) (cwV 2 hts gL_law_X7_blend rfl rfl rfl (by decide +kernel) ⟨Nat.le_of_ble_eq_true rfl, Nat.le_of_ble_eq_true rfl⟩) (ge7_7 ..) rfl rfl rfl hl.1 rfl (Nat.le_of_ble_eq_true rfl) dL_law_328 ⟨by show _ ≤ 601024; omega, by show _ ≤ 7293034; omega⟩ (fun r_11 u7_10 H locs Y hv => ?_)
  refine z_topi hv (fun x6_12 ex6_12 hv => ?_)
  refine lv_istore (lv' := [(6, .int x6_12), (5, .int x5_9), (0, .ref b), (1, .ref (a 6 99)), (2, .ref (a 7 99)), (3, .ref (a 8 0)), (4, .int x4)]) hx hb dL_law_331 hl (by decide) rfl (fun ls hl => ?_)
  refine lv_aload_n hx hb dL_law_333 rfl (lv_at hl 4 rfl) ?_
  refine z_callVi C Y (c_X7_thrown l hv) (frl_7 ..) (cwV 0 hts gL_law_X7_thrown rfl rfl rfl (by decide +kernel) ⟨Nat.le_of_ble_eq_true rfl, Nat.le_of_ble_eq_true rfl⟩) (ge7_7 ..) rfl rfl rfl hl.1 rfl (Nat.le_of_ble_eq_true rfl) dL_law_334 ⟨by show _ ≤ 601024; omega, by show _ ≤ 7293034; omega⟩ (fun r_14 u7_13 H locs Y hv => ?_)
  refine lv_iload hx hb dL_law_337 (lv_at hl 1 rfl) ?_
  refine lv_icmp_eq (tgt := 344) hx hb dL_law_339 (by decide) (fun hc => ?_) (fun hc => ?_)
  · have hv := hv.1 hc
    refine lv_iload hx hb dL_law_344 (lv_at hl 1 rfl) ?_
    refine lv_if_ne (tgt := 361) hx hb dL_law_346 (by decide) (fun hc => ?_) (fun hc => ?_)
    · have hv := hv.2 hc
      refine lv_goto (tgt := 1375) hx hb dL_law_361 (by decide) ?_
      obtain ⟨x4_15, ex4_15, hv⟩ := z_nv hv
      refine lv_iinc (v := x4_15) (lv' := [(4, .int x4_15), (6, .int x6_12), (5, .int x5_9), (0, .ref b), (1, .ref (a 6 99)), (2, .ref (a 7 99)), (3, .ref (a 8 0))]) hx hb dL_law_1375 hl (k := 6) rfl (by rw [ex4_15]; rfl) (by decide) rfl (fun ls hl => ?_)
      refine lv_goto (tgt := 23) hx hb dL_law_1378 (by decide) ?_
      exact hJ23 _ _ _ _ _ _ _ _ _ _ _ _ _ _ hv Y (lv_sub hl [3, 4, 5, 6, 0] rfl)
    · have hv := hv.1 hc
      refine lv_aload_n hx hb dL_law_349 rfl (lv_at hl 5 rfl) ?_
      refine lv_iconst (v := 0) hx hb dL_law_350 (by decide) ?_
      refine z_ldJ C Y (pal_8_0 ..) z_in01 dL_law_351 ?_
      refine lv_iload hx hb dL_law_352 (lv_at hl 0 rfl) ?_
      refine lv_i2l hx hb dL_law_354 rfl ?_
      refine W.lcmp hx hb dL_law_355 ?_
      refine lv_if_eq (tgt := 361) hx hb dL_law_356 (by decide) (fun hc => ?_) (fun hc => ?_)
      · have hv := hv.1 hc
        refine lv_goto (tgt := 1375) hx hb dL_law_361 (by decide) ?_
        obtain ⟨x4_16, ex4_16, hv⟩ := z_nv hv
        refine lv_iinc (v := x4_16) (lv' := [(4, .int x4_16), (6, .int x6_12), (5, .int x5_9), (0, .ref b), (1, .ref (a 6 99)), (2, .ref (a 7 99)), (3, .ref (a 8 0))]) hx hb dL_law_1375 hl (k := 6) rfl (by rw [ex4_16]; rfl) (by decide) rfl (fun ls hl => ?_)
        refine lv_goto (tgt := 23) hx hb dL_law_1378 (by decide) ?_
        exact hJ23 _ _ _ _ _ _ _ _ _ _ _ _ _ _ hv Y (lv_sub hl [3, 4, 5, 6, 0] rfl)
      · have hv := hv.2 hc
        refine lv_iconst (v := 0) hx hb dL_law_359 (by decide) ?_
        exact hv.elim
  · have hv := hv.2 hc
    refine lv_iconst (v := 0) hx hb dL_law_342 (by decide) ?_
    exact hv.elim

def wp_L_law_943 (L : Nat) (xs : Nat → Int32) (J23 : Int32 → Nat → Nat → zSt → zSt → zSt → zSt → zSt → zSt → zSt → (Nat → Int64) → Prop) (x4 : Int32) (cs sl : Nat) (u0 : zSt) (u1 : zSt) (u2 : zSt) (u3 : zSt) (u4 : zSt) (u5 : zSt) (u7 : zSt) (u8 : (Nat → Int64)) : Prop :=
  (cs + 1 ≤ 601024 ∧ sl + 6 ≤ 7293034) ∧ (vp_in (x4 + 1) L ∧ (vp_in (x4 + 2) L ∧ (TL_explain (fun (r_8 : Int32) (w_17 : zSt × zSt × zSt × zSt × zSt × zSt × (Nat → Int64)) => ∀ x5_9 : Int32, x5_9 = r_8 → vp_in (x4 + 1) L ∧ (vp_in (x4 + 2) L ∧ (TX7_explain (fun (r_11 : Int32) (u7_10 : zSt) => ∀ x6_12 : Int32, x6_12 = r_11 → TX7_thrown (fun (r_14 : Int32) (u7_13 : zSt) => (r_14 = x5_9 → (x5_9 = (0 : Int32) → ((lg_cmp (w_17.2.2.2.2.2.2 (0 : Int32).toNatClampNeg) ((x6_12 : Int32).toInt64)) = (0 : Int32) → ∀ x4_16 : Int32, x4_16 = x4 + 5 → J23 x4_16 (cs + 1) (sl + 6) w_17.1 w_17.2.1 w_17.2.2.1 w_17.2.2.2.1 w_17.2.2.2.2.1 w_17.2.2.2.2.2.1 u7_13 w_17.2.2.2.2.2.2) ∧ (¬ (lg_cmp (w_17.2.2.2.2.2.2 (0 : Int32).toNatClampNeg) ((x6_12 : Int32).toInt64)) = (0 : Int32) → False)) ∧ (¬ x5_9 = (0 : Int32) → ∀ x4_15 : Int32, x4_15 = x4 + 5 → J23 x4_15 (cs + 1) (sl + 6) w_17.1 w_17.2.1 w_17.2.2.1 w_17.2.2.2.1 w_17.2.2.2.2.1 w_17.2.2.2.2.2.1 u7_13 w_17.2.2.2.2.2.2)) ∧ (¬ r_14 = x5_9 → False))  u7_10) (xs (x4 + 1).toNatClampNeg) (xs (x4 + 2).toNatClampNeg) u7))) (xs (x4 + 1).toNatClampNeg) (xs (x4 + 2).toNatClampNeg) u0 u1 u2 u3 u4 u5 u8)))
set_option maxHeartbeats 4000000 in
set_option maxRecDepth 100000 in
theorem bk_L_law_943 {a : Nat → Nat → Nat} {b L : Nat} {xs : Nat → Int32} {J23 : Int32 → Nat → Nat → zSt → zSt → zSt → zSt → zSt → zSt → zSt → (Nat → Int64) → Prop} {x4 : Int32} {cs sl : Nat} {u0 : zSt} {u1 : zSt} {u2 : zSt} {u3 : zSt} {u4 : zSt} {u5 : zSt} {u7 : zSt} {u8 : (Nat → Int64)} (C : zCx p s m args c cL_law 7 RL wsL_law D cI cZ cJ A) (Y : zDy D A s.heap (kl a cI cZ cJ (u0, u1, u2, u3, u4, u5, u7, u8)) H locs) (hl : lv_has ls 7 [(0, .ref b), (1, .ref (a 6 99)), (2, .ref (a 7 99)), (3, .ref (a 8 0)), (4, .int x4)]) (hlt : l.stackTraces = false) (hX : zXe A s s.heap) (hXs : va_X b L xs s s.heap) (hbl : b < s.heap.size) (hbA : ¬ A b) (hret : ∀ {pc : Nat} {H : Heap} {locs : List Loc} {ls : Array Slot} {cs sl : Nat} {u0 : zSt} {u1 : zSt} {u2 : zSt} {u3 : zSt} {u4 : zSt} {u5 : zSt} {u7 : zSt} {u8 : (Nat → Int64)}, zDy D A s.heap (kl a cI cZ cJ (u0, u1, u2, u3, u4, u5, u7, u8)) H locs → (cs ≤ 601024 ∧ sl ≤ 7293034) → decode cL_law pc = .ok (.ireturn, 1) → W p l e room_1 s m args below meth c H locs cs sl Q (F0 m pc ls [.int 1])) (hJ23 : ∀ (x4 : Int32) (cs sl : Nat) (u0 : zSt) (u1 : zSt) (u2 : zSt) (u3 : zSt) (u4 : zSt) (u5 : zSt) (u7 : zSt) (u8 : (Nat → Int64)) (H : Heap) (locs : List Loc) (ls : Array Slot), J23 x4 cs sl u0 u1 u2 u3 u4 u5 u7 u8 → zDy D A s.heap (kl a cI cZ cJ (u0, u1, u2, u3, u4, u5, u7, u8)) H locs → lv_has ls 7 [(0, .ref b), (1, .ref (a 6 99)), (2, .ref (a 7 99)), (3, .ref (a 8 0)), (4, .int x4)] → W p l e room_1 s m args below meth c H locs cs sl Q (F0 m 23 ls [])) (hv : wp_L_law_943 L xs J23 x4 cs sl u0 u1 u2 u3 u4 u5 u7 u8) : W p l e room_1 s m args below meth c H locs cs sl Q (F0 m 943 ls []) := by
  unfold wp_L_law_943 at hv
  obtain ⟨hcs, hv⟩ := hv
  obtain ⟨hx, hb, hml, hown, hts, hK, hA⟩ := id C
  refine lv_aload_n hx hb dL_law_943 rfl (lv_at hl 1 rfl) ?_
  refine lv_aload_n hx hb dL_law_944 rfl (lv_at hl 0 rfl) ?_
  refine lv_iload hx hb dL_law_945 (lv_at hl 4 rfl) ?_
  refine lv_iconst (v := 1) hx hb dL_law_947 (by decide) ?_
  refine lv_iadd hx hb dL_law_948 ?_
  obtain ⟨hi, hv⟩ := hv
  refine va_sld hx hb hXs hbl hbA Y.2.2 hi dL_law_949 ?_
  refine lv_aload_n hx hb dL_law_950 rfl (lv_at hl 0 rfl) ?_
  refine lv_iload hx hb dL_law_951 (lv_at hl 4 rfl) ?_
  refine lv_iconst (v := 2) hx hb dL_law_953 (by decide) ?_
  refine lv_iadd hx hb dL_law_954 ?_
  obtain ⟨hi, hv⟩ := hv
  refine va_sld hx hb hXs hbl hbA Y.2.2 hi dL_law_955 ?_
  refine lv_aload_n hx hb dL_law_956 rfl (lv_at hl 3 rfl) ?_
  refine z_callW C Y hX (c_L_explain l hlt hv) (frl_w ..) (vx_cwSW 4 hts gL_law_L_explain rfl rfl rfl (by decide +kernel) ⟨Nat.le_of_ble_eq_true rfl, Nat.le_of_ble_eq_true rfl⟩) rfl hl.1 rfl (Nat.le_of_ble_eq_true rfl) dL_law_957 ⟨by show _ ≤ 601024; omega, by show _ ≤ 7293034; omega⟩ (fun r_8 ⟨u0_1, u1_2, u2_3, u3_4, u4_5, u5_6, u8_7⟩ H locs Y hv => ?_)
  refine z_topi hv (fun x5_9 ex5_9 hv => ?_)
  refine lv_istore (lv' := [(5, .int x5_9), (0, .ref b), (1, .ref (a 6 99)), (2, .ref (a 7 99)), (3, .ref (a 8 0)), (4, .int x4)]) hx hb dL_law_960 hl (by decide) rfl (fun ls hl => ?_)
  refine lv_aload_n hx hb dL_law_962 rfl (lv_at hl 3 rfl) ?_
  refine lv_aload_n hx hb dL_law_963 rfl (lv_at hl 1 rfl) ?_
  refine lv_iload hx hb dL_law_964 (lv_at hl 5 rfl) ?_
  refine lv_iconst (v := 1) hx hb dL_law_966 (by decide) ?_
  refine lv_iadd hx hb dL_law_967 ?_
  obtain ⟨hi, hv⟩ := hv
  refine va_sld hx hb hXs hbl hbA Y.2.2 hi dL_law_968 ?_
  refine lv_aload_n hx hb dL_law_969 rfl (lv_at hl 1 rfl) ?_
  refine lv_iload hx hb dL_law_970 (lv_at hl 5 rfl) ?_
  refine lv_iconst (v := 2) hx hb dL_law_972 (by decide) ?_
  refine lv_iadd hx hb dL_law_973 ?_
  obtain ⟨hi, hv⟩ := hv
  refine va_sld hx hb hXs hbl hbA Y.2.2 hi dL_law_974 ?_
  refine z_callVi C Y (c_X7_explain l hv) (frl_7 ..) (cwV 2 hts gL_law_X7_explain rfl rfl rfl (by decide +kernel) ⟨Nat.le_of_ble_eq_true rfl, Nat.le_of_ble_eq_true rfl⟩) (ge7_7 ..) rfl rfl rfl hl.1 rfl (Nat.le_of_ble_eq_true rfl) dL_law_975 ⟨by show _ ≤ 601024; omega, by show _ ≤ 7293034; omega⟩ (fun r_11 u7_10 H locs Y hv => ?_)
  refine z_topi hv (fun x6_12 ex6_12 hv => ?_)
  refine lv_istore (lv' := [(6, .int x6_12), (5, .int x5_9), (0, .ref b), (1, .ref (a 6 99)), (2, .ref (a 7 99)), (3, .ref (a 8 0)), (4, .int x4)]) hx hb dL_law_978 hl (by decide) rfl (fun ls hl => ?_)
  refine lv_aload_n hx hb dL_law_980 rfl (lv_at hl 4 rfl) ?_
  refine z_callVi C Y (c_X7_thrown l hv) (frl_7 ..) (cwV 0 hts gL_law_X7_thrown rfl rfl rfl (by decide +kernel) ⟨Nat.le_of_ble_eq_true rfl, Nat.le_of_ble_eq_true rfl⟩) (ge7_7 ..) rfl rfl rfl hl.1 rfl (Nat.le_of_ble_eq_true rfl) dL_law_981 ⟨by show _ ≤ 601024; omega, by show _ ≤ 7293034; omega⟩ (fun r_14 u7_13 H locs Y hv => ?_)
  refine lv_iload hx hb dL_law_984 (lv_at hl 1 rfl) ?_
  refine lv_icmp_eq (tgt := 991) hx hb dL_law_986 (by decide) (fun hc => ?_) (fun hc => ?_)
  · have hv := hv.1 hc
    refine lv_iload hx hb dL_law_991 (lv_at hl 1 rfl) ?_
    refine lv_if_ne (tgt := 1008) hx hb dL_law_993 (by decide) (fun hc => ?_) (fun hc => ?_)
    · have hv := hv.2 hc
      refine lv_goto (tgt := 1375) hx hb dL_law_1008 (by decide) ?_
      obtain ⟨x4_15, ex4_15, hv⟩ := z_nv hv
      refine lv_iinc (v := x4_15) (lv' := [(4, .int x4_15), (6, .int x6_12), (5, .int x5_9), (0, .ref b), (1, .ref (a 6 99)), (2, .ref (a 7 99)), (3, .ref (a 8 0))]) hx hb dL_law_1375 hl (k := 6) rfl (by rw [ex4_15]; rfl) (by decide) rfl (fun ls hl => ?_)
      refine lv_goto (tgt := 23) hx hb dL_law_1378 (by decide) ?_
      exact hJ23 _ _ _ _ _ _ _ _ _ _ _ _ _ _ hv Y (lv_sub hl [3, 4, 5, 6, 0] rfl)
    · have hv := hv.1 hc
      refine lv_aload_n hx hb dL_law_996 rfl (lv_at hl 5 rfl) ?_
      refine lv_iconst (v := 0) hx hb dL_law_997 (by decide) ?_
      refine z_ldJ C Y (pal_8_0 ..) z_in01 dL_law_998 ?_
      refine lv_iload hx hb dL_law_999 (lv_at hl 0 rfl) ?_
      refine lv_i2l hx hb dL_law_1001 rfl ?_
      refine W.lcmp hx hb dL_law_1002 ?_
      refine lv_if_eq (tgt := 1008) hx hb dL_law_1003 (by decide) (fun hc => ?_) (fun hc => ?_)
      · have hv := hv.1 hc
        refine lv_goto (tgt := 1375) hx hb dL_law_1008 (by decide) ?_
        obtain ⟨x4_16, ex4_16, hv⟩ := z_nv hv
        refine lv_iinc (v := x4_16) (lv' := [(4, .int x4_16), (6, .int x6_12), (5, .int x5_9), (0, .ref b), (1, .ref (a 6 99)), (2, .ref (a 7 99)), (3, .ref (a 8 0))]) hx hb dL_law_1375 hl (k := 6) rfl (by rw [ex4_16]; rfl) (by decide) rfl (fun ls hl => ?_)
        refine lv_goto (tgt := 23) hx hb dL_law_1378 (by decide) ?_
        exact hJ23 _ _ _ _ _ _ _ _ _ _ _ _ _ _ hv Y (lv_sub hl [3, 4, 5, 6, 0] rfl)
      · have hv := hv.2 hc
        refine lv_iconst (v := 0) hx hb dL_law_1006 (by decide) ?_
        exact hv.elim
  · have hv := hv.2 hc
    refine lv_iconst (v := 0) hx hb dL_law_989 (by decide) ?_
    exact hv.elim

end
