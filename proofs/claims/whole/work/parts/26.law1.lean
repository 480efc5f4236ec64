section
variable {p : Program} {l : Launch} {e : Env} {s : State} {m : MethodId} {args : Array Value} {below : List Frame} {meth : Method} {c : Code} {H : Heap} {locs : List Loc} {Q : State → Prop} {D : va_G} {cI cZ cJ : ClassId} {A : Nat → Prop} {ls : Array Slot}
def wp_L_law_1079 (L : Nat) (xs : Nat → Int32) (J23 : Int32 → Nat → Nat → zSt → zSt → zSt → zSt → zSt → zSt → zSt → (Nat → Int64) → Prop) (x4 : Int32) (cs sl : Nat) (u0 : zSt) (u1 : zSt) (u2 : zSt) (u3 : zSt) (u4 : zSt) (u5 : zSt) (u7 : zSt) (u8 : (Nat → Int64)) : Prop :=
  (cs + 1 ≤ 601024 ∧ sl + 6 ≤ 7293034) ∧ (vp_in (x4 + 1) L ∧ (vp_in (x4 + 2) L ∧ (vp_in (x4 + 3) L ∧ (TL_grade (fun (r_8 : Int32) (w_17 : zSt × zSt × zSt × zSt × zSt × zSt × (Nat → Int64)) => ∀ x5_9 : Int32, x5_9 = r_8 → vp_in (x4 + 1) L ∧ (vp_in (x4 + 2) L ∧ (vp_in (x4 + 3) L ∧ (TX7_grade (fun (r_11 : Int32) (u7_10 : zSt) => ∀ x6_12 : Int32, x6_12 = r_11 → TX7_thrown (fun (r_14 : Int32) (u7_13 : zSt) => (r_14 = x5_9 → (x5_9 = (0 : Int32) → ((lg_cmp (w_17.2.2.2.2.2.2 (0 : Int32).toNatClampNeg) ((x6_12 : Int32).toInt64)) = (0 : Int32) → ∀ x4_16 : Int32, x4_16 = x4 + 5 → J23 x4_16 (cs + 1) (sl + 6) w_17.1 w_17.2.1 w_17.2.2.1 w_17.2.2.2.1 w_17.2.2.2.2.1 w_17.2.2.2.2.2.1 u7_13 w_17.2.2.2.2.2.2) ∧ (¬ (lg_cmp (w_17.2.2.2.2.2.2 (0 : Int32).toNatClampNeg) ((x6_12 : Int32).toInt64)) = (0 : Int32) → False)) ∧ (¬ x5_9 = (0 : Int32) → ∀ x4_15 : Int32, x4_15 = x4 + 5 → J23 x4_15 (cs + 1) (sl + 6) w_17.1 w_17.2.1 w_17.2.2.1 w_17.2.2.2.1 w_17.2.2.2.2.1 w_17.2.2.2.2.2.1 u7_13 w_17.2.2.2.2.2.2)) ∧ (¬ r_14 = x5_9 → False))  u7_10) (xs (x4 + 1).toNatClampNeg) (xs (x4 + 2).toNatClampNeg) (xs (x4 + 3).toNatClampNeg) u7)))) (xs (x4 + 1).toNatClampNeg) (xs (x4 + 2).toNatClampNeg) (xs (x4 + 3).toNatClampNeg) u0 u1 u2 u3 u4 u5 u8))))
set_option maxHeartbeats 4000000 in
set_option maxRecDepth 100000 in
theorem bk_L_law_1079 {a : Nat → Nat → Nat} {b L : Nat} {xs : Nat → Int32} {J23 : Int32 → Nat → Nat → zSt → zSt → zSt → zSt → zSt → zSt → zSt → (Nat → Int64) → Prop} {x4 : Int32} {cs sl : Nat} {u0 : zSt} {u1 : zSt} {u2 : zSt} {u3 : zSt} {u4 : zSt} {u5 : zSt} {u7 : zSt} {u8 : (Nat → Int64)} (C : zCx p s m args c cL_law 7 RL wsL_law D cI cZ cJ A) (Y : zDy D A s.heap (kl a cI cZ cJ (u0, u1, u2, u3, u4, u5, u7, u8)) H locs) (hl : lv_has ls 7 [(0, .ref b), (1, .ref (a 6 99)), (2, .ref (a 7 99)), (3, .ref (a 8 0)), (4, .int x4)]) (hlt : l.stackTraces = false) (hX : zXe A s s.heap) (hXs : va_X b L xs s s.heap) (hbl : b < s.heap.size) (hbA : ¬ A b) (hret : ∀ {pc : Nat} {H : Heap} {locs : List Loc} {ls : Array Slot} {cs sl : Nat} {u0 : zSt} {u1 : zSt} {u2 : zSt} {u3 : zSt} {u4 : zSt} {u5 : zSt} {u7 : zSt} {u8 : (Nat → Int64)}, zDy D A s.heap (kl a cI cZ cJ (u0, u1, u2, u3, u4, u5, u7, u8)) H locs → (cs ≤ 601024 ∧ sl ≤ 7293034) → decode cL_law pc = .ok (.ireturn, 1) → W p l e room_1 s m args below meth c H locs cs sl Q (F0 m pc ls [.int 1])) (hJ23 : ∀ (x4 : Int32) (cs sl : Nat) (u0 : zSt) (u1 : zSt) (u2 : zSt) (u3 : zSt) (u4 : zSt) (u5 : zSt) (u7 : zSt) (u8 : (Nat → Int64)) (H : Heap) (locs : List Loc) (ls : Array Slot), J23 x4 cs sl u0 u1 u2 u3 u4 u5 u7 u8 → zDy D A s.heap (kl a cI cZ cJ (u0, u1, u2, u3, u4, u5, u7, u8)) H locs → lv_has ls 7 [(0, .ref b), (1, .ref (a 6 99)), (2, .ref (a 7 99)), (3, .ref (a 8 0)), (4, .int x4)] → W p l e room_1 s m args below meth c H locs cs sl Q (F0 m 23 ls [])) (hv : wp_L_law_1079 L xs J23 x4 cs sl u0 u1 u2 u3 u4 u5 u7 u8) : W p l e room_1 s m args below meth c H locs cs sl Q (F0 m 1079 ls []) := by
  unfold wp_L_law_1079 at hv
  obtain ⟨hcs, hv⟩ := hv
  obtain ⟨hx, hb, hml, hown, hts, hK, hA⟩ := id C
  refine lv_aload_n hx hb dL_law_1079 rfl (lv_at hl 1 rfl) ?_
  refine lv_aload_n hx hb dL_law_1080 rfl (lv_at hl 0 rfl) ?_
  refine lv_iload hx hb dL_law_1081 (lv_at hl 4 rfl) ?_
  refine lv_iconst (v := 1) hx hb dL_law_1083 (by decide) ?_
  refine lv_iadd hx hb dL_law_1084 ?_
  obtain ⟨hi, hv⟩ := hv
  refine va_sld hx hb hXs hbl hbA Y.2.2 hi dL_law_1085 ?_
  refine lv_aload_n hx hb dL_law_1086 rfl (lv_at hl 0 rfl) ?_
  refine lv_iload hx hb dL_law_1087 (lv_at hl 4 rfl) ?_
  refine lv_iconst (v := 2) hx hb dL_law_1089 (by decide) ?_
  refine lv_iadd hx hb dL_law_1090 ?_
  obtain ⟨hi, hv⟩ := hv
  refine va_sld hx hb hXs hbl hbA Y.2.2 hi dL_law_1091 ?_
  refine lv_aload_n hx hb dL_law_1092 rfl (lv_at hl 0 rfl) ?_
  refine lv_iload hx hb dL_law_1093 (lv_at hl 4 rfl) ?_
  refine lv_iconst (v := 3) hx hb dL_law_1095 (by decide) ?_
  refine lv_iadd hx hb dL_law_1096 ?_
  obtain ⟨hi, hv⟩ := hv
  refine va_sld hx hb hXs hbl hbA Y.2.2 hi dL_law_1097 ?_
  refine lv_aload_n hx hb dL_law_1098 rfl (lv_at hl 3 rfl) ?_
  refine z_callW C Y hX (c_L_grade l hlt hv) (frl_w ..) (vx_cwSW 5 hts gL_law_L_grade rfl rfl rfl (by decide +kernel) ⟨Nat.le_of_ble_eq_true rfl, Nat.le_of_ble_eq_true rfl⟩) rfl hl.1 rfl (Nat.le_of_ble_eq_true rfl) dL_law_1099 ⟨by show _ ≤ 601024; omega, by show _ ≤ 7293034; omega⟩ (fun r_8 ⟨u0_1, u1_2, u2_3, u3_4, u4_5, u5_6, u8_7⟩ H locs Y hv => ?_)
  refine z_topi hv (fun x5_9 ex5_9 hv => ?_)
  refine lv_istore (lv' := [(5, .int x5_9), (0, .ref b), (1, .ref (a 6 99)), (2, .ref (a 7 99)), (3, .ref (a 8 0)), (4, .int x4)]) hx hb dL_law_1102 hl (by decide) rfl (fun ls hl => ?_)
  refine lv_aload_n hx hb dL_law_1104 rfl (lv_at hl 3 rfl) ?_
  refine lv_aload_n hx hb dL_law_1105 rfl (lv_at hl 1 rfl) ?_
  refine lv_iload hx hb dL_law_1106 (lv_at hl 5 rfl) ?_
  refine lv_iconst (v := 1) hx hb dL_law_1108 (by decide) ?_
  refine lv_iadd hx hb dL_law_1109 ?_
  obtain ⟨hi, hv⟩ := hv
  refine va_sld hx hb hXs hbl hbA Y.2.2 hi dL_law_1110 ?_
  refine lv_aload_n hx hb dL_law_1111 rfl (lv_at hl 1 rfl) ?_
  refine lv_iload hx hb dL_law_1112 (lv_at hl 5 rfl) ?_
  refine lv_iconst (v := 2) hx hb dL_law_1114 (by decide) ?_
  refine lv_iadd hx hb dL_law_1115 ?_
  obtain ⟨hi, hv⟩ := hv
  refine va_sld hx hb hXs hbl hbA Y.2.2 hi dL_law_1116 ?_
  refine lv_aload_n hx hb dL_law_1117 rfl (lv_at hl 1 rfl) ?_
  refine lv_iload hx hb dL_law_1118 (lv_at hl 5 rfl) ?_
  refine lv_iconst (v := 3) hx hb dL_law_1120 (by decide) ?_
  refine lv_iadd hx hb dL_law_1121 ?_
  obtain ⟨hi, hv⟩ := hv
  refine va_sld hx hb hXs hbl hbA Y.2.2 hi dL_law_1122 ?_
  refine z_callVi C Y (c_X7_grade l hv) (frl_7 ..) (cwV 3 hts gL_law_X7_grade rfl rfl rfl (by decide +kernel) ⟨Nat.le_of_ble_eq_true rfl, Nat.le_of_ble_eq_true rfl⟩) (ge7_7 ..) rfl rfl rfl hl.1 rfl (Nat.le_of_ble_eq_true rfl) dL_law_1123 ⟨by show _ ≤ 601024; omega, by show _ ≤ 7293034; omega⟩ (fun r_11 u7_10 H locs Y hv => ?_)
  refine z_topi hv (fun x6_12 ex6_12 hv => ?_)
  refine lv_istore (lv' := [(6, .int x6_12), (5, .int x5_9), (0, .ref b), (1, .ref (a 6 99)), (2, .ref (a 7 99)), (3, .ref (a 8 0)), (4, .int x4)]) hx hb dL_law_1126 hl (by decide) rfl (fun ls hl => ?_)
  refine lv_aload_n hx hb dL_law_1128 rfl (lv_at hl 4 rfl) ?_
  refine z_callVi C Y (c_X7_thrown l hv) (frl_7 ..) (cwV 0 hts gL_law_X7_thrown rfl rfl rfl (by decide +kernel) ⟨Nat.le_of_ble_eq_true rfl, Nat.le_of_ble_eq_true rfl⟩) (ge7_7 ..) rfl rfl rfl hl.1 rfl (Nat.le_of_ble_eq_true rfl) dL_law_1129 ⟨by show _ ≤ 601024; omega, by show _ ≤ 7293034; omega⟩ (fun r_14 u7_13 H locs Y hv => ?_)
  refine lv_iload hx hb dL_law_1132 (lv_at hl 1 rfl) ?_
  refine lv_icmp_eq (tgt := 1139) hx hb dL_law_1134 (by decide) (fun hc => ?_) (fun hc => ?_)
  · have hv := hv.1 hc
    refine lv_iload hx hb dL_law_1139 (lv_at hl 1 rfl) ?_
    refine lv_if_ne (tgt := 1156) hx hb dL_law_1141 (by decide) (fun hc => ?_) (fun hc => ?_)
    · have hv := hv.2 hc
      refine lv_goto (tgt := 1375) hx hb dL_law_1156 (by decide) ?_
      obtain ⟨x4_15, ex4_15, hv⟩ := z_nv hv
      refine lv_iinc (v := x4_15) (lv' := [(4, .int x4_15), (6, .int x6_12), (5, .int x5_9), (0, .ref b), (1, .ref (a 6 99)), (2, .ref (a 7 99)), (3, .ref (a 8 0))]) hx hb dL_law_1375 hl (k := 6) rfl (by rw [ex4_15]; rfl) (by decide) rfl (fun ls hl => ?_)
      refine lv_goto (tgt := 23) hx hb dL_law_1378 (by decide) ?_
      exact hJ23 _ _ _ _ _ _ _ _ _ _ _ _ _ _ hv Y (lv_sub hl [3, 4, 5, 6, 0] rfl)
    · have hv := hv.1 hc
      refine lv_aload_n hx hb dL_law_1144 rfl (lv_at hl 5 rfl) ?_
      refine lv_iconst (v := 0) hx hb dL_law_1145 (by decide) ?_
      refine z_ldJ C Y (pal_8_0 ..) z_in01 dL_law_1146 ?_
      refine lv_iload hx hb dL_law_1147 (lv_at hl 0 rfl) ?_
      refine lv_i2l hx hb dL_law_1149 rfl ?_
      refine W.lcmp hx hb dL_law_1150 ?_
      refine lv_if_eq (tgt := 1156) hx hb dL_law_1151 (by decide) (fun hc => ?_) (fun hc => ?_)
      · have hv := hv.1 hc
        refine lv_goto (tgt := 1375) hx hb dL_law_1156 (by decide) ?_
        obtain ⟨x4_16, ex4_16, hv⟩ := z_nv hv
        refine lv_iinc (v := x4_16) (lv' := [(4, .int x4_16), (6, .int x6_12), (5, .int x5_9), (0, .ref b), (1, .ref (a 6 99)), (2, .ref (a 7 99)), (3, .ref (a 8 0))]) hx hb dL_law_1375 hl (k := 6) rfl (by rw [ex4_16]; rfl) (by decide) rfl (fun ls hl => ?_)
        refine lv_goto (tgt := 23) hx hb dL_law_1378 (by decide) ?_
        exact hJ23 _ _ _ _ _ _ _ _ _ _ _ _ _ _ hv Y (lv_sub hl [3, 4, 5, 6, 0] rfl)
      · have hv := hv.2 hc
        refine lv_iconst (v := 0) hx hb dL_law_1154 (by decide) ?_
        exact hv.elim
  · have hv := hv.2 hc
    refine lv_iconst (v := 0) hx hb dL_law_1137 (by decide) ?_
    exact hv.elim

def wp_L_law_878 (L : Nat) (xs : Nat → Int32) (J23 : Int32 → Nat → Nat → zSt → zSt → zSt → zSt → zSt → zSt → zSt → (Nat → Int64) → Prop) (x4 : Int32) (t0 : Int64) (t1 : Int64) (cs sl : Nat) (u0 : zSt) (u1 : zSt) (u2 : zSt) (u3 : zSt) (u4 : zSt) (u5 : zSt) (u7 : zSt) (u8 : (Nat → Int64)) : Prop :=
  (cs + 1 ≤ 601024 ∧ sl + 6 ≤ 7293034) ∧ (((lg_cmp t1 t0) = (0 : Int32) → ∀ x4_1 : Int32, x4_1 = x4 + 5 → J23 x4_1 cs sl u0 u1 u2 u3 u4 u5 u7 u8) ∧ (¬ (lg_cmp t1 t0) = (0 : Int32) → False))
set_option maxHeartbeats 4000000 in
set_option maxRecDepth 100000 in
theorem bk_L_law_878 {a : Nat → Nat → Nat} {b L : Nat} {xs : Nat → Int32} {J23 : Int32 → Nat → Nat → zSt → zSt → zSt → zSt → zSt → zSt → zSt → (Nat → Int64) → Prop} {x4 : Int32} {t0 : Int64} {t1 : Int64} {cs sl : Nat} {u0 : zSt} {u1 : zSt} {u2 : zSt} {u3 : zSt} {u4 : zSt} {u5 : zSt} {u7 : zSt} {u8 : (Nat → Int64)} (C : zCx p s m args c cL_law 7 RL wsL_law D cI cZ cJ A) (Y : zDy D A s.heap (kl a cI cZ cJ (u0, u1, u2, u3, u4, u5, u7, u8)) H locs) (hl : lv_has ls 7 [(0, .ref b), (1, .ref (a 6 99)), (2, .ref (a 7 99)), (3, .ref (a 8 0)), (4, .int x4)]) (hlt : l.stackTraces = false) (hX : zXe A s s.heap) (hXs : va_X b L xs s s.heap) (hbl : b < s.heap.size) (hbA : ¬ A b) (hret : ∀ {pc : Nat} {H : Heap} {locs : List Loc} {ls : Array Slot} {cs sl : Nat} {u0 : zSt} {u1 : zSt} {u2 : zSt} {u3 : zSt} {u4 : zSt} {u5 : zSt} {u7 : zSt} {u8 : (Nat → Int64)}, zDy D A s.heap (kl a cI cZ cJ (u0, u1, u2, u3, u4, u5, u7, u8)) H locs → (cs ≤ 601024 ∧ sl ≤ 7293034) → decode cL_law pc = .ok (.ireturn, 1) → W p l e room_1 s m args below meth c H locs cs sl Q (F0 m pc ls [.int 1])) (hJ23 : ∀ (x4 : Int32) (cs sl : Nat) (u0 : zSt) (u1 : zSt) (u2 : zSt) (u3 : zSt) (u4 : zSt) (u5 : zSt) (u7 : zSt) (u8 : (Nat → Int64)) (H : Heap) (locs : List Loc) (ls : Array Slot), J23 x4 cs sl u0 u1 u2 u3 u4 u5 u7 u8 → zDy D A s.heap (kl a cI cZ cJ (u0, u1, u2, u3, u4, u5, u7, u8)) H locs → lv_has ls 7 [(0, .ref b), (1, .ref (a 6 99)), (2, .ref (a 7 99)), (3, .ref (a 8 0)), (4, .int x4)] → W p l e room_1 s m args below meth c H locs cs sl Q (F0 m 23 ls [])) (hv : wp_L_law_878 L xs J23 x4 t0 t1 cs sl u0 u1 u2 u3 u4 u5 u7 u8) : W p l e room_1 s m args below meth c H locs cs sl Q (F0 m 878 ls [.long t0, .long t1]) := by
  unfold wp_L_law_878 at hv
  obtain ⟨hcs, hv⟩ := hv
  obtain ⟨hx, hb, hml, hown, hts, hK, hA⟩ := id C
  refine W.lcmp hx hb dL_law_878 ?_
  refine lv_if_eq (tgt := 884) hx hb dL_law_879 (by decide) (fun hc => ?_) (fun hc => ?_)
  · have hv := hv.1 hc
    refine lv_goto (tgt := 1375) hx hb dL_law_884 (by decide) ?_
    obtain ⟨x4_1, ex4_1, hv⟩ := z_nv hv
    refine lv_iinc (v := x4_1) (lv' := [(4, .int x4_1), (0, .ref b), (1, .ref (a 6 99)), (2, .ref (a 7 99)), (3, .ref (a 8 0))]) hx hb dL_law_1375 hl (k := 4) rfl (by rw [ex4_1]; rfl) (by decide) rfl (fun ls hl => ?_)
    refine lv_goto (tgt := 23) hx hb dL_law_1378 (by decide) ?_
    exact hJ23 _ _ _ _ _ _ _ _ _ _ _ _ _ _ hv Y (lv_sub hl [1, 2, 3, 4, 0] rfl)
  · have hv := hv.2 hc
    refine lv_iconst (v := 0) hx hb dL_law_882 (by decide) ?_
    exact hv.elim

def wp_L_law_824 (L : Nat) (xs : Nat → Int32) (J23 : Int32 → Nat → Nat → zSt → zSt → zSt → zSt → zSt → zSt → zSt → (Nat → Int64) → Prop) (x4 : Int32) (cs sl : Nat) (u0 : zSt) (u1 : zSt) (u2 : zSt) (u3 : zSt) (u4 : zSt) (u5 : zSt) (u7 : zSt) (u8 : (Nat → Int64)) : Prop :=
  (cs + 1 ≤ 601024 ∧ sl + 6 ≤ 7293034) ∧ (vp_in (x4 + 1) L ∧ (TL_undo (fun (r_8 : Int32) (w_16 : zSt × zSt × zSt × zSt × zSt × zSt × (Nat → Int64)) => ∀ x5_9 : Int32, x5_9 = r_8 → vp_in (x4 + 1) L ∧ (TX7_undo (fun (r_11 : Int32) (u7_10 : zSt) => ∀ x6_12 : Int32, x6_12 = r_11 → TX7_thrown (fun (r_14 : Int32) (u7_13 : zSt) => (r_14 = x5_9 → (x5_9 = (0 : Int32) → (x6_12 = (0 : Int32) → wp_L_law_878 L xs J23 x4 (0 : Int64) (w_16.2.2.2.2.2.2 (0 : Int32).toNatClampNeg) (cs + 1) (sl + 6) w_16.1 w_16.2.1 w_16.2.2.1 w_16.2.2.2.1 w_16.2.2.2.2.1 w_16.2.2.2.2.2.1 u7_13 w_16.2.2.2.2.2.2) ∧ (¬ x6_12 = (0 : Int32) → wp_L_law_878 L xs J23 x4 (1 : Int64) (w_16.2.2.2.2.2.2 (0 : Int32).toNatClampNeg) (cs + 1) (sl + 6) w_16.1 w_16.2.1 w_16.2.2.1 w_16.2.2.2.1 w_16.2.2.2.2.1 w_16.2.2.2.2.2.1 u7_13 w_16.2.2.2.2.2.2)) ∧ (¬ x5_9 = (0 : Int32) → ∀ x4_15 : Int32, x4_15 = x4 + 5 → J23 x4_15 (cs + 1) (sl + 6) w_16.1 w_16.2.1 w_16.2.2.1 w_16.2.2.2.1 w_16.2.2.2.2.1 w_16.2.2.2.2.2.1 u7_13 w_16.2.2.2.2.2.2)) ∧ (¬ r_14 = x5_9 → False))  u7_10) (xs (x4 + 1).toNatClampNeg) u7)) (xs (x4 + 1).toNatClampNeg) u0 u1 u2 u3 u4 u5 u8))
set_option maxHeartbeats 4000000 in
set_option maxRecDepth 100000 in
theorem bk_L_law_824 {a : Nat → Nat → Nat} {b L : Nat} {xs : Nat → Int32} {J23 : Int32 → Nat → Nat → zSt → zSt → zSt → zSt → zSt → zSt → zSt → (Nat → Int64) → Prop} {x4 : Int32} {cs sl : Nat} {u0 : zSt} {u1 : zSt} {u2 : zSt} {u3 : zSt} {u4 : zSt} {u5 : zSt} {u7 : zSt} {u8 : (Nat → Int64)} (C : zCx p s m args c cL_law 7 RL wsL_law D cI cZ cJ A) (Y : zDy D A s.heap (kl a cI cZ cJ (u0, u1, u2, u3, u4, u5, u7, u8)) H locs) (hl : lv_has ls 7 [(0, .ref b), (1, .ref (a 6 99)), (2, .ref (a 7 99)), (3, .ref (a 8 0)), (4, .int x4)]) (hlt : l.stackTraces = false) (hX : zXe A s s.heap) (hXs : va_X b L xs s s.heap) (hbl : b < s.heap.size) (hbA : ¬ A b) (hret : ∀ {pc : Nat} {H : Heap} {locs : List Loc} {ls : Array Slot} {cs sl : Nat} {u0 : zSt} {u1 : zSt} {u2 : zSt} {u3 : zSt} {u4 : zSt} {u5 : zSt} {u7 : zSt} {u8 : (Nat → Int64)}, zDy D A s.heap (kl a cI cZ cJ (u0, u1, u2, u3, u4, u5, u7, u8)) H locs → (cs ≤ 601024 ∧ sl ≤ 7293034) → decode cL_law pc = .ok (.ireturn, 1) → W p l e room_1 s m args below meth c H locs cs sl Q (F0 m pc ls [.int 1])) (hJ23 : ∀ (x4 : Int32) (cs sl : Nat) (u0 : zSt) (u1 : zSt) (u2 : zSt) (u3 : zSt) (u4 : zSt) (u5 : zSt) (u7 : zSt) (u8 : (Nat → Int64)) (H : Heap) (locs : List Loc) (ls : Array Slot), J23 x4 cs sl u0 u1 u2 u3 u4 u5 u7 u8 → zDy D A s.heap (kl a cI cZ cJ (u0, u1, u2, u3, u4, u5, u7, u8)) H locs → lv_has ls 7 [(0, .ref b), (1, .ref (a 6 99)), (2, .ref (a 7 99)), (3, .ref (a 8 0)), (4, .int x4)] → W p l e room_1 s m args below meth c H locs cs sl Q (F0 m 23 ls [])) (hv : wp_L_law_824 L xs J23 x4 cs sl u0 u1 u2 u3 u4 u5 u7 u8) : W p l e room_1 s m args below meth c H locs cs sl Q (F0 m 824 ls []) := by
  unfold wp_L_law_824 at hv
  obtain ⟨hcs, hv⟩ := hv
  obtain ⟨hx, hb, hml, hown, hts, hK, hA⟩ := id C
  refine lv_aload_n hx hb dL_law_824 rfl (lv_at hl 1 rfl) ?_
  refine lv_aload_n hx hb dL_law_825 rfl (lv_at hl 0 rfl) ?_
  refine lv_iload hx hb dL_law_826 (lv_at hl 4 rfl) ?_
  refine lv_iconst (v := 1) hx hb dL_law_828 (by decide) ?_
  refine lv_iadd hx hb dL_law_829 ?_
  obtain ⟨hi, hv⟩ := hv
  refine va_sld hx hb hXs hbl hbA Y.2.2 hi dL_law_830 ?_
  refine lv_aload_n hx hb dL_law_831 rfl (lv_at hl 3 rfl) ?_
  refine z_callW C Y hX (c_L_undo l hlt hv) (frl_w ..) (vx_cwSW 3 hts gL_law_L_undo rfl rfl rfl (by decide +kernel) ⟨Nat.le_of_ble_eq_true rfl, Nat.le_of_ble_eq_true rfl⟩) rfl hl.1 rfl (Nat.le_of_ble_eq_true rfl) dL_law_832 ⟨by show _ ≤ 601024; omega, by show _ ≤ 7293034; omega⟩ (fun r_8 ⟨u0_1, u1_2, u2_3, u3_4, u4_5, u5_6, u8_7⟩ H locs Y hv => ?_)
  refine z_topi hv (fun x5_9 ex5_9 hv => ?_)
  refine lv_istore (lv' := [(5, .int x5_9), (0, .ref b), (1, .ref (a 6 99)), (2, .ref (a 7 99)), (3, .ref (a 8 0)), (4, .int x4)]) hx hb dL_law_835 hl (by decide) rfl (fun ls hl => ?_)
  refine lv_aload_n hx hb dL_law_837 rfl (lv_at hl 3 rfl) ?_
  refine lv_aload_n hx hb dL_law_838 rfl (lv_at hl 1 rfl) ?_
  refine lv_iload hx hb dL_law_839 (lv_at hl 5 rfl) ?_
  refine lv_iconst (v := 1) hx hb dL_law_841 (by decide) ?_
  refine lv_iadd hx hb dL_law_842 ?_
  obtain ⟨hi, hv⟩ := hv
  refine va_sld hx hb hXs hbl hbA Y.2.2 hi dL_law_843 ?_
  refine z_callVi C Y (c_X7_undo l hv) (frl_7 ..) (cwV 1 hts gL_law_X7_undo rfl rfl rfl (by decide +kernel) ⟨Nat.le_of_ble_eq_true rfl, Nat.le_of_ble_eq_true rfl⟩) (ge7_7 ..) rfl rfl rfl hl.1 rfl (Nat.le_of_ble_eq_true rfl) dL_law_844 ⟨by show _ ≤ 601024; omega, by show _ ≤ 7293034; omega⟩ (fun r_11 u7_10 H locs Y hv => ?_)
  refine z_topi hv (fun x6_12 ex6_12 hv => ?_)
  refine lv_istore (lv' := [(6, .int x6_12), (5, .int x5_9), (0, .ref b), (1, .ref (a 6 99)), (2, .ref (a 7 99)), (3, .ref (a 8 0)), (4, .int x4)]) hx hb dL_law_847 hl (by decide) rfl (fun ls hl => ?_)
  refine lv_aload_n hx hb dL_law_849 rfl (lv_at hl 4 rfl) ?_
  refine z_callVi C Y (c_X7_thrown l hv) (frl_7 ..) (cwV 0 hts gL_law_X7_thrown rfl rfl rfl (by decide +kernel) ⟨Nat.le_of_ble_eq_true rfl, Nat.le_of_ble_eq_true rfl⟩) (ge7_7 ..) rfl rfl rfl hl.1 rfl (Nat.le_of_ble_eq_true rfl) dL_law_850 ⟨by show _ ≤ 601024; omega, by show _ ≤ 7293034; omega⟩ (fun r_14 u7_13 H locs Y hv => ?_)
  refine lv_iload hx hb dL_law_853 (lv_at hl 1 rfl) ?_
  refine lv_icmp_eq (tgt := 860) hx hb dL_law_855 (by decide) (fun hc => ?_) (fun hc => ?_)
  · have hv := hv.1 hc
    refine lv_iload hx hb dL_law_860 (lv_at hl 1 rfl) ?_
    refine lv_if_ne (tgt := 884) hx hb dL_law_862 (by decide) (fun hc => ?_) (fun hc => ?_)
    · have hv := hv.2 hc
      refine lv_goto (tgt := 1375) hx hb dL_law_884 (by decide) ?_
      obtain ⟨x4_15, ex4_15, hv⟩ := z_nv hv
      refine lv_iinc (v := x4_15) (lv' := [(4, .int x4_15), (6, .int x6_12), (5, .int x5_9), (0, .ref b), (1, .ref (a 6 99)), (2, .ref (a 7 99)), (3, .ref (a 8 0))]) hx hb dL_law_1375 hl (k := 6) rfl (by rw [ex4_15]; rfl) (by decide) rfl (fun ls hl => ?_)
      refine lv_goto (tgt := 23) hx hb dL_law_1378 (by decide) ?_
      exact hJ23 _ _ _ _ _ _ _ _ _ _ _ _ _ _ hv Y (lv_sub hl [3, 4, 5, 6, 0] rfl)
    · have hv := hv.1 hc
      refine lv_aload_n hx hb dL_law_865 rfl (lv_at hl 5 rfl) ?_
      refine lv_iconst (v := 0) hx hb dL_law_866 (by decide) ?_
      refine z_ldJ C Y (pal_8_0 ..) z_in01 dL_law_867 ?_
      refine lv_iload hx hb dL_law_868 (lv_at hl 0 rfl) ?_
      refine lv_if_eq (tgt := 877) hx hb dL_law_870 (by decide) (fun hc => ?_) (fun hc => ?_)
      · have hv := hv.1 hc
        refine lv_lconst (v := 0) hx hb dL_law_877 (by decide) ?_
        exact bk_L_law_878 C Y (lv_sub hl [2, 3, 4, 5, 6] rfl) hlt hX hXs hbl hbA hret hJ23 hv
      · have hv := hv.2 hc
        refine lv_lconst (v := 1) hx hb dL_law_873 (by decide) ?_
        refine lv_goto (tgt := 878) hx hb dL_law_874 (by decide) ?_
        exact bk_L_law_878 C Y (lv_sub hl [2, 3, 4, 5, 6] rfl) hlt hX hXs hbl hbA hret hJ23 hv
  · have hv := hv.2 hc
    refine lv_iconst (v := 0) hx hb dL_law_858 (by decide) ?_
    exact hv.elim

def wp_L_law_1337 (L : Nat) (xs : Nat → Int32) (J23 : Int32 → Nat → Nat → zSt → zSt → zSt → zSt → zSt → zSt → zSt → (Nat → Int64) → Prop) (x4 : Int32) (cs sl : Nat) (u0 : zSt) (u1 : zSt) (u2 : zSt) (u3 : zSt) (u4 : zSt) (u5 : zSt) (u7 : zSt) (u8 : (Nat → Int64)) : Prop :=
  (cs + 1 ≤ 601024 ∧ sl + 6 ≤ 7293034) ∧ (TX6_changes (fun (r_7 : Int32) (w_11 : zSt × zSt × zSt × zSt × zSt × zSt) => TX7_changes (fun (r_9 : Int32) (u7_8 : zSt) => (r_7 = r_9 → ∀ x4_10 : Int32, x4_10 = x4 + 5 → J23 x4_10 cs sl w_11.1 w_11.2.1 w_11.2.2.1 w_11.2.2.2.1 w_11.2.2.2.2.1 w_11.2.2.2.2.2 u7_8 u8) ∧ (¬ r_7 = r_9 → False))  u7)  u0 u1 u2 u3 u4 u5)
set_option maxHeartbeats 4000000 in
set_option maxRecDepth 100000 in
theorem bk_L_law_1337 {a : Nat → Nat → Nat} {b L : Nat} {xs : Nat → Int32} {J23 : Int32 → Nat → Nat → zSt → zSt → zSt → zSt → zSt → zSt → zSt → (Nat → Int64) → Prop} {x4 : Int32} {cs sl : Nat} {u0 : zSt} {u1 : zSt} {u2 : zSt} {u3 : zSt} {u4 : zSt} {u5 : zSt} {u7 : zSt} {u8 : (Nat → Int64)} (C : zCx p s m args c cL_law 7 RL wsL_law D cI cZ cJ A) (Y : zDy D A s.heap (kl a cI cZ cJ (u0, u1, u2, u3, u4, u5, u7, u8)) H locs) (hl : lv_has ls 7 [(0, .ref b), (1, .ref (a 6 99)), (2, .ref (a 7 99)), (3, .ref (a 8 0)), (4, .int x4)]) (hlt : l.stackTraces = false) (hX : zXe A s s.heap) (hXs : va_X b L xs s s.heap) (hbl : b < s.heap.size) (hbA : ¬ A b) (hret : ∀ {pc : Nat} {H : Heap} {locs : List Loc} {ls : Array Slot} {cs sl : Nat} {u0 : zSt} {u1 : zSt} {u2 : zSt} {u3 : zSt} {u4 : zSt} {u5 : zSt} {u7 : zSt} {u8 : (Nat → Int64)}, zDy D A s.heap (kl a cI cZ cJ (u0, u1, u2, u3, u4, u5, u7, u8)) H locs → (cs ≤ 601024 ∧ sl ≤ 7293034) → decode cL_law pc = .ok (.ireturn, 1) → W p l e room_1 s m args below meth c H locs cs sl Q (F0 m pc ls [.int 1])) (hJ23 : ∀ (x4 : Int32) (cs sl : Nat) (u0 : zSt) (u1 : zSt) (u2 : zSt) (u3 : zSt) (u4 : zSt) (u5 : zSt) (u7 : zSt) (u8 : (Nat → Int64)) (H : Heap) (locs : List Loc) (ls : Array Slot), J23 x4 cs sl u0 u1 u2 u3 u4 u5 u7 u8 → zDy D A s.heap (kl a cI cZ cJ (u0, u1, u2, u3, u4, u5, u7, u8)) H locs → lv_has ls 7 [(0, .ref b), (1, .ref (a 6 99)), (2, .ref (a 7 99)), (3, .ref (a 8 0)), (4, .int x4)] → W p l e room_1 s m args below meth c H locs cs sl Q (F0 m 23 ls [])) (hv : wp_L_law_1337 L xs J23 x4 cs sl u0 u1 u2 u3 u4 u5 u7 u8) : W p l e room_1 s m args below meth c H locs cs sl Q (F0 m 1337 ls []) := by
  unfold wp_L_law_1337 at hv
  obtain ⟨hcs, hv⟩ := hv
  obtain ⟨hx, hb, hml, hown, hts, hK, hA⟩ := id C
  refine lv_aload_n hx hb dL_law_1337 rfl (lv_at hl 1 rfl) ?_
  refine z_callVi C Y (c_X6_changes l hv) (frl_6 ..) (cwV 0 hts gL_law_X6_changes rfl rfl rfl (by decide +kernel) ⟨Nat.le_of_ble_eq_true rfl, Nat.le_of_ble_eq_true rfl⟩) (ge6_6 ..) rfl rfl rfl hl.1 rfl (Nat.le_of_ble_eq_true rfl) dL_law_1338 ⟨by show _ ≤ 601024; omega, by show _ ≤ 7293034; omega⟩ (fun r_7 ⟨u0_1, u1_2, u2_3, u3_4, u4_5, u5_6⟩ H locs Y hv => ?_)
  refine lv_aload_n hx hb dL_law_1341 rfl (lv_at hl 2 rfl) ?_
  refine z_callVi C Y (c_X7_changes l hv) (frl_7 ..) (cwV 0 hts gL_law_X7_changes rfl rfl rfl (by decide +kernel) ⟨Nat.le_of_ble_eq_true rfl, Nat.le_of_ble_eq_true rfl⟩) (ge7_7 ..) rfl rfl rfl hl.1 rfl (Nat.le_of_ble_eq_true rfl) dL_law_1342 ⟨by show _ ≤ 601024; omega, by show _ ≤ 7293034; omega⟩ (fun r_9 u7_8 H locs Y hv => ?_)
  refine lv_icmp_eq (tgt := 1375) hx hb dL_law_1345 (by decide) (fun hc => ?_) (fun hc => ?_)
  · have hv := hv.1 hc
    obtain ⟨x4_10, ex4_10, hv⟩ := z_nv hv
    refine lv_iinc (v := x4_10) (lv' := [(4, .int x4_10), (0, .ref b), (1, .ref (a 6 99)), (2, .ref (a 7 99)), (3, .ref (a 8 0))]) hx hb dL_law_1375 hl (k := 4) rfl (by rw [ex4_10]; rfl) (by decide) rfl (fun ls hl => ?_)
    refine lv_goto (tgt := 23) hx hb dL_law_1378 (by decide) ?_
    exact hJ23 _ _ _ _ _ _ _ _ _ _ _ _ _ _ hv Y (lv_sub hl [1, 2, 3, 4, 0] rfl)
  · have hv := hv.2 hc
    refine lv_iconst (v := 0) hx hb dL_law_1348 (by decide) ?_
    exact hv.elim

def wp_L_law_444 (L : Nat) (xs : Nat → Int32) (J23 : Int32 → Nat → Nat → zSt → zSt → zSt → zSt → zSt → zSt → zSt → (Nat → Int64) → Prop) (x4 : Int32) (cs sl : Nat) (u0 : zSt) (u1 : zSt) (u2 : zSt) (u3 : zSt) (u4 : zSt) (u5 : zSt) (u7 : zSt) (u8 : (Nat → Int64)) : Prop :=
  (cs + 1 ≤ 601024 ∧ sl + 6 ≤ 7293034) ∧ (vp_in (x4 + 1) L ∧ (vp_in (x4 + 2) L ∧ (TL_cores (fun (r_8 : Int32) (w_17 : zSt × zSt × zSt × zSt × zSt × zSt × (Nat → Int64)) => ∀ x5_9 : Int32, x5_9 = r_8 → vp_in (x4 + 1) L ∧ (vp_in (x4 + 2) L ∧ (TX7_cores (fun (r_11 : Int32) (u7_10 : zSt) => ∀ x6_12 : Int32, x6_12 = r_11 → TX7_thrown (fun (r_14 : Int32) (u7_13 : zSt) => (r_14 = x5_9 → (x5_9 = (0 : Int32) → ((lg_cmp (w_17.2.2.2.2.2.2 (0 : Int32).toNatClampNeg) ((x6_12 : Int32).toInt64)) = (0 : Int32) → ∀ x4_16 : Int32, x4_16 = x4 + 5 → J23 x4_16 (cs + 1) (sl + 6) w_17.1 w_17.2.1 w_17.2.2.1 w_17.2.2.2.1 w_17.2.2.2.2.1 w_17.2.2.2.2.2.1 u7_13 w_17.2.2.2.2.2.2) ∧ (¬ (lg_cmp (w_17.2.2.2.2.2.2 (0 : Int32).toNatClampNeg) ((x6_12 : Int32).toInt64)) = (0 : Int32) → False)) ∧ (¬ x5_9 = (0 : Int32) → ∀ x4_15 : Int32, x4_15 = x4 + 5 → J23 x4_15 (cs + 1) (sl + 6) w_17.1 w_17.2.1 w_17.2.2.1 w_17.2.2.2.1 w_17.2.2.2.2.1 w_17.2.2.2.2.2.1 u7_13 w_17.2.2.2.2.2.2)) ∧ (¬ r_14 = x5_9 → False))  u7_10) (xs (x4 + 1).toNatClampNeg) (xs (x4 + 2).toNatClampNeg) u7))) (xs (x4 + 1).toNatClampNeg) (xs (x4 + 2).toNatClampNeg) u0 u1 u2 u3 u4 u5 u8)))
set_option maxHeartbeats 4000000 in
set_option maxRecDepth 100000 in
theorem bk_L_law_444 {a : Nat → Nat → Nat} {b L : Nat} {xs : Nat → Int32} {J23 : Int32 → Nat → Nat → zSt → zSt → zSt → zSt → zSt → zSt → zSt → (Nat → Int64) → Prop} {x4 : Int32} {cs sl : Nat} {u0 : zSt} {u1 : zSt} {u2 : zSt} {u3 : zSt} {u4 : zSt} {u5 : zSt} {u7 : zSt} {u8 : (Nat → Int64)} (C : zCx p s m args c cL_law 7 RL wsL_law D cI cZ cJ A) (Y : zDy D A s.heap (kl a cI cZ cJ (u0, u1, u2, u3, u4, u5, u7, u8)) H locs) (hl : lv_has ls 7 [(0, .ref b), (1, .ref (a 6 99)), (2, .ref (a 7 99)), (3, .ref (a 8 0)), (4, .int x4)]) (hlt : l.stackTraces = false) (hX : zXe A s s.heap) (hXs : va_X b L xs s s.heap) (hbl : b < s.heap.size) (hbA : ¬ A b) (hret : ∀ {pc : Nat} {H : Heap} {locs : List Loc} {ls : Array Slot} {cs sl : Nat} {u0 : zSt} {u1 : zSt} {u2 : zSt} {u3 : zSt} {u4 : zSt} {u5 : zSt} {u7 : zSt} {u8 : (Nat → Int64)}, zDy D A s.heap (kl a cI cZ cJ (u0, u1, u2, u3, u4, u5, u7, u8)) H locs → (cs ≤ 601024 ∧ sl ≤ 7293034) → decode cL_law pc = .ok (.ireturn, 1) → W p l e room_1 s m args below meth c H locs cs sl Q (F0 m pc ls [.int 1])) (hJ23 : ∀ (x4 : Int32) (cs sl : Nat) (u0 : zSt) (u1 : zSt) (u2 : zSt) (u3 : zSt) (u4 : zSt) (u5 : zSt) (u7 : zSt) (u8 : (Nat → Int64)) (H : Heap) (locs : List Loc) (ls : Array Slot), J23 x4 cs sl u0 u1 u2 u3 u4 u5 u7 u8 → zDy D A s.heap (kl a cI cZ cJ (u0, u1, u2, u3, u4, u5, u7, u8)) H locs → lv_has ls 7 [(0, .ref b), (1, .ref (a 6 99)), (2, .ref (a 7 99)), (3, .ref (a 8 0)), (4, .int x4)] → W p l e room_1 s m args below meth c H locs cs sl Q (F0 m 23 ls [])) (hv : wp_L_law_444 L xs J23 x4 cs sl u0 u1 u2 u3 u4 u5 u7 u8) : W p l e room_1 s m args below meth c H locs cs sl Q (F0 m 444 ls []) := by
  unfold wp_L_law_444 at hv
  obtain ⟨hcs, hv⟩ := hv
  obtain ⟨hx, hb, hml, hown, hts, hK, hA⟩ := id C
  refine lv_aload_n hx hb dL_law_444 rfl (lv_at hl 1 rfl) ?_
  refine lv_aload_n hx hb dL_law_445 rfl (lv_at hl 0 rfl) ?_
  refine lv_iload hx hb dL_law_446 (lv_at hl 4 rfl) ?_
  refine lv_iconst (v := 1) hx hb dL_law_448 (by decide) ?_
  refine lv_iadd hx hb dL_law_449 ?_
  obtain ⟨hi, hv⟩ := hv
  refine va_sld hx hb hXs hbl hbA Y.2.2 hi dL_law_450 ?_
  refine lv_aload_n hx hb dL_law_451 rfl (lv_at hl 0 rfl) ?_
  refine lv_iload hx hb dL_law_452 (lv_at hl 4 rfl) ?_
  refine lv_iconst (v := 2) hx hb dL_law_454 (by decide) ?_
  refine lv_iadd hx hb dL_law_455 ?_
  obtain ⟨hi, hv⟩ := hv
  refine va_sld hx hb hXs hbl hbA Y.2.2 hi dL_law_456 ?_
  refine lv_aload_n hx hb dL_law_457 rfl (lv_at hl 3 rfl) ?_
  refine z_callW C Y hX (c_L_cores l hlt hv) (frl_w ..) (vx_cwSW 4 hts gL_law_L_cores rfl rfl rfl (by decide +kernel) ⟨Nat.le_of_ble_eq_true rfl, Nat.le_of_ble_eq_true rfl⟩) rfl hl.1 rfl (Nat.le_of_ble_eq_true rfl) dL_law_458 ⟨by show _ ≤ 601024; omega, by show _ ≤ 7293034; omega⟩ (fun r_8 ⟨u0_1, u1_2, u2_3, u3_4, u4_5, u5_6, u8_7⟩ H locs Y hv => ?_)
  refine z_topi hv (fun x5_9 ex5_9 hv => ?_)
  refine lv_istore (lv' := [(5, .int x5_9), (0, .ref b), (1, .ref (a 6 99)), (2, .ref (a 7 99)), (3, .ref (a 8 0)), (4, .int x4)]) hx hb dL_law_461 hl (by decide) rfl (fun ls hl => ?_)
  refine lv_aload_n hx hb dL_law_463 rfl (lv_at hl 3 rfl) ?_
  refine lv_aload_n hx hb dL_law_464 rfl (lv_at hl 1 rfl) ?_
  refine lv_iload hx hb dL_law_465 (lv_at hl 5 rfl) ?_
  refine lv_iconst (v := 1) hx hb dL_law_467 (by decide) ?_
  refine lv_iadd hx hb dL_law_468 ?_
  obtain ⟨hi, hv⟩ := hv
  refine va_sld hx hb hXs hbl hbA Y.2.2 hi dL_law_469 ?_
  refine lv_aload_n hx hb dL_law_470 rfl (lv_at hl 1 rfl) ?_
  refine lv_iload hx hb dL_law_471 (lv_at hl 5 rfl) ?_
  refine lv_iconst (v := 2) hx hb dL_law_473 (by decide) ?_
  refine lv_iadd hx hb dL_law_474 ?_
  obtain ⟨hi, hv⟩ := hv
  refine va_sld hx hb hXs hbl hbA Y.2.2 hi dL_law_475 ?_
  refine z_callVi C Y (c_X7_cores l hv) (frl_7 ..) (cwV 2 hts gL_law_X7_cores rfl rfl rfl (by decide +kernel) ⟨Nat.le_of_ble_eq_true rfl, Nat.le_of_ble_eq_true rfl⟩) (ge7_7 ..) rfl rfl rfl hl.1 rfl (Nat.le_of_ble_eq_true rfl) dL_law_476 ⟨by show _ ≤ 601024; omega, by show _ ≤ 7293034; omega⟩ (fun r_11 u7_10 H locs Y hv => ?_)
  refine z_topi hv (fun x6_12 ex6_12 hv => ?_)
  refine lv_istore (lv' := [(6, .int x6_12), (5, .int x5_9), (0, .ref b), (1, .ref (a 6 99)), (2, .ref (a 7 99)), (3, .ref (a 8 0)), (4, .int x4)]) hx hb dL_law_479 hl (by decide) rfl (fun ls hl => ?_)
  refine lv_aload_n hx hb dL_law_481 rfl (lv_at hl 4 rfl) ?_
  refine z_callVi C Y (c_X7_thrown l hv) (frl_7 ..) (cwV 0 hts gL_law_X7_thrown rfl rfl rfl (by decide +kernel) ⟨Nat.le_of_ble_eq_true rfl, Nat.le_of_ble_eq_true rfl⟩) (ge7_7 ..) rfl rfl rfl hl.1 rfl (Nat.le_of_ble_eq_true rfl) dL_law_482 ⟨by show _ ≤ 601024; omega, by show _ ≤ 7293034; omega⟩ (fun r_14 u7_13 H locs Y hv => ?_)
  refine lv_iload hx hb dL_law_485 (lv_at hl 1 rfl) ?_
  refine lv_icmp_eq (tgt := 492) hx hb dL_law_487 (by decide) (fun hc => ?_) (fun hc => ?_)
  · have hv := hv.1 hc
    refine lv_iload hx hb dL_law_492 (lv_at hl 1 rfl) ?_
    refine lv_if_ne (tgt := 509) hx hb dL_law_494 (by decide) (fun hc => ?_) (fun hc => ?_)
    · have hv := hv.2 hc
      refine lv_goto (tgt := 1375) hx hb dL_law_509 (by decide) ?_
      obtain ⟨x4_15, ex4_15, hv⟩ := z_nv hv
      refine lv_iinc (v := x4_15) (lv' := [(4, .int x4_15), (6, .int x6_12), (5, .int x5_9), (0, .ref b), (1, .ref (a 6 99)), (2, .ref (a 7 99)), (3, .ref (a 8 0))]) hx hb dL_law_1375 hl (k := 6) rfl (by rw [ex4_15]; rfl) (by decide) rfl (fun ls hl => ?_)
      refine lv_goto (tgt := 23) hx hb dL_law_1378 (by decide) ?_
      exact hJ23 _ _ _ _ _ _ _ _ _ _ _ _ _ _ hv Y (lv_sub hl [3, 4, 5, 6, 0] rfl)
    · have hv := hv.1 hc
      refine lv_aload_n hx hb dL_law_497 rfl (lv_at hl 5 rfl) ?_
      refine lv_iconst (v := 0) hx hb dL_law_498 (by decide) ?_
      refine z_ldJ C Y (pal_8_0 ..) z_in01 dL_law_499 ?_
      refine lv_iload hx hb dL_law_500 (lv_at hl 0 rfl) ?_
      refine lv_i2l hx hb dL_law_502 rfl ?_
      refine W.lcmp hx hb dL_law_503 ?_
      refine lv_if_eq (tgt := 509) hx hb dL_law_504 (by decide) (fun hc => ?_) (fun hc => ?_)
      · have hv := hv.1 hc
        refine lv_goto (tgt := 1375) hx hb dL_law_509 (by decide) ?_
        obtain ⟨x4_16, ex4_16, hv⟩ := z_nv hv
        refine lv_iinc (v := x4_16) (lv' := [(4, .int x4_16), (6, .int x6_12), (5, .int x5_9), (0, .ref b), (1, .ref (a 6 99)), (2, .ref (a 7 99)), (3, .ref (a 8 0))]) hx hb dL_law_1375 hl (k := 6) rfl (by rw [ex4_16]; rfl) (by decide) rfl (fun ls hl => ?_)
        refine lv_goto (tgt := 23) hx hb dL_law_1378 (by decide) ?_
        exact hJ23 _ _ _ _ _ _ _ _ _ _ _ _ _ _ hv Y (lv_sub hl [3, 4, 5, 6, 0] rfl)
      · have hv := hv.2 hc
        refine lv_iconst (v := 0) hx hb dL_law_507 (by decide) ?_
        exact hv.elim
  · have hv := hv.2 hc
    refine lv_iconst (v := 0) hx hb dL_law_490 (by decide) ?_
    exact hv.elim

def wp_L_law_580 (L : Nat) (xs : Nat → Int32) (J23 : Int32 → Nat → Nat → zSt → zSt → zSt → zSt → zSt → zSt → zSt → (Nat → Int64) → Prop) (x4 : Int32) (cs sl : Nat) (u0 : zSt) (u1 : zSt) (u2 : zSt) (u3 : zSt) (u4 : zSt) (u5 : zSt) (u7 : zSt) (u8 : (Nat → Int64)) : Prop :=
  (cs + 1 ≤ 601024 ∧ sl + 6 ≤ 7293034) ∧ (vp_in (x4 + 1) L ∧ (vp_in (x4 + 2) L ∧ (vp_in (x4 + 3) L ∧ (vp_in (x4 + 4) L ∧ (TL_make (fun (r_8 : Int32) (w_17 : zSt × zSt × zSt × zSt × zSt × zSt × (Nat → Int64)) => ∀ x5_9 : Int32, x5_9 = r_8 → vp_in (x4 + 1) L ∧ (vp_in (x4 + 2) L ∧ (vp_in (x4 + 3) L ∧ (vp_in (x4 + 4) L ∧ (TX7_make (fun (r_11 : Int32) (u7_10 : zSt) => ∀ x6_12 : Int32, x6_12 = r_11 → TX7_thrown (fun (r_14 : Int32) (u7_13 : zSt) => (r_14 = x5_9 → (x5_9 = (0 : Int32) → ((lg_cmp (w_17.2.2.2.2.2.2 (0 : Int32).toNatClampNeg) ((x6_12 : Int32).toInt64)) = (0 : Int32) → ∀ x4_16 : Int32, x4_16 = x4 + 5 → J23 x4_16 (cs + 1) (sl + 6) w_17.1 w_17.2.1 w_17.2.2.1 w_17.2.2.2.1 w_17.2.2.2.2.1 w_17.2.2.2.2.2.1 u7_13 w_17.2.2.2.2.2.2) ∧ (¬ (lg_cmp (w_17.2.2.2.2.2.2 (0 : Int32).toNatClampNeg) ((x6_12 : Int32).toInt64)) = (0 : Int32) → False)) ∧ (¬ x5_9 = (0 : Int32) → ∀ x4_15 : Int32, x4_15 = x4 + 5 → J23 x4_15 (cs + 1) (sl + 6) w_17.1 w_17.2.1 w_17.2.2.1 w_17.2.2.2.1 w_17.2.2.2.2.1 w_17.2.2.2.2.2.1 u7_13 w_17.2.2.2.2.2.2)) ∧ (¬ r_14 = x5_9 → False))  u7_10) (xs (x4 + 1).toNatClampNeg) (xs (x4 + 2).toNatClampNeg) (xs (x4 + 3).toNatClampNeg) (xs (x4 + 4).toNatClampNeg) u7))))) (xs (x4 + 1).toNatClampNeg) (xs (x4 + 2).toNatClampNeg) (xs (x4 + 3).toNatClampNeg) (xs (x4 + 4).toNatClampNeg) u0 u1 u2 u3 u4 u5 u8)))))
set_option maxHeartbeats 4000000 in
set_option maxRecDepth 100000 in
theorem bk_L_law_580 {a : Nat → Nat → Nat} {b L : Nat} {xs : Nat → Int32} {J23 : Int32 → Nat → Nat → zSt → zSt → zSt → zSt → zSt → zSt → zSt → (Nat → Int64) → Prop} {x4 : Int32} {cs sl : Nat} {u0 : zSt} {u1 : zSt} {u2 : zSt} {u3 : zSt} {u4 : zSt} {u5 : zSt} {u7 : zSt} {u8 : (Nat → Int64)} (C : zCx p s m args c cL_law 7 RL wsL_law D cI cZ cJ A) (Y : zDy D A s.heap (kl a cI cZ cJ (u0, u1, u2, u3, u4, u5, u7, u8)) H locs) (hl : lv_has ls 7 [(0, .ref b), (1, .ref (a 6 99)), (2, .ref (a 7 99)), (3, .ref (a 8 0)), (4, .int x4)]) (hlt : l.stackTraces = false) (hX : zXe A s s.heap) (hXs : va_X b L xs s s.heap) (hbl : b < s.heap.size) (hbA : ¬ A b) (hret : ∀ {pc : Nat} {H : Heap} {locs : List Loc} {ls : Array Slot} {cs sl : Nat} {u0 : zSt} {u1 : zSt} {u2 : zSt} {u3 : zSt} {u4 : zSt} {u5 : zSt} {u7 : zSt} {u8 : (Nat → Int64)}, zDy D A s.heap (kl a cI cZ cJ (u0, u1, u2, u3, u4, u5, u7, u8)) H locs → (cs ≤ 601024 ∧ sl ≤ 7293034) → decode cL_law pc = .ok (.ireturn, 1) → W p l e room_1 s m args below meth c H locs cs sl Q (F0 m pc ls [.int 1])) (hJ23 : ∀ (x4 : Int32) (cs sl : Nat) (u0 : zSt) (u1 : zSt) (u2 : zSt) (u3 : zSt) (u4 : zSt) (u5 : zSt) (u7 : zSt) (u8 : (Nat → Int64)) (H : Heap) (locs : List Loc) (ls : Array Slot), J23 x4 cs sl u0 u1 u2 u3 u4 u5 u7 u8 → zDy D A s.heap (kl a cI cZ cJ (u0, u1, u2, u3, u4, u5, u7, u8)) H locs → lv_has ls 7 [(0, .ref b), (1, .ref (a 6 99)), (2, .ref (a 7 99)), (3, .ref (a 8 0)), (4, .int x4)] → W p l e room_1 s m args below meth c H locs cs sl Q (F0 m 23 ls [])) (hv : wp_L_law_580 L xs J23 x4 cs sl u0 u1 u2 u3 u4 u5 u7 u8) : W p l e room_1 s m args below meth c H locs cs sl Q (F0 m 580 ls []) := by
  unfold wp_L_law_580 at hv
  obtain ⟨hcs, hv⟩ := hv
  obtain ⟨hx, hb, hml, hown, hts, hK, hA⟩ := id C
  refine lv_aload_n hx hb dL_law_580 rfl (lv_at hl 1 rfl) ?_
  refine lv_aload_n hx hb dL_law_581 rfl (lv_at hl 0 rfl) ?_
  refine lv_iload hx hb dL_law_582 (lv_at hl 4 rfl) ?_
  refine lv_iconst (v := 1) hx hb dL_law_584 (by decide) ?_
  refine lv_iadd hx hb dL_law_585 ?_
  obtain ⟨hi, hv⟩ := hv
  refine va_sld hx hb hXs hbl hbA Y.2.2 hi dL_law_586 ?_
  refine lv_aload_n hx hb dL_law_587 rfl (lv_at hl 0 rfl) ?_
  refine lv_iload hx hb dL_law_588 (lv_at hl 4 rfl) ?_
  refine lv_iconst (v := 2) hx hb dL_law_590 (by decide) ?_
  refine lv_iadd hx hb dL_law_591 ?_
  obtain ⟨hi, hv⟩ := hv
  refine va_sld hx hb hXs hbl hbA Y.2.2 hi dL_law_592 ?_
  refine lv_aload_n hx hb dL_law_593 rfl (lv_at hl 0 rfl) ?_
  refine lv_iload hx hb dL_law_594 (lv_at hl 4 rfl) ?_
  refine lv_iconst (v := 3) hx hb dL_law_596 (by decide) ?_
  refine lv_iadd hx hb dL_law_597 ?_
  obtain ⟨hi, hv⟩ := hv
  refine va_sld hx hb hXs hbl hbA Y.2.2 hi dL_law_598 ?_
  refine lv_aload_n hx hb dL_law_599 rfl (lv_at hl 0 rfl) ?_
  refine lv_iload hx hb dL_law_600 (lv_at hl 4 rfl) ?_
  refine lv_iconst (v := 4) hx hb dL_law_602 (by decide) ?_
  refine lv_iadd hx hb dL_law_603 ?_
  obtain ⟨hi, hv⟩ := hv
  refine va_sld hx hb hXs hbl hbA Y.2.2 hi dL_law_604 ?_
  refine lv_aload_n hx hb dL_law_605 rfl (lv_at hl 3 rfl) ?_
  refine z_callW C Y hX (c_L_make l hlt hv) (frl_w ..) (vx_cwSW 6 hts gL_law_L_make rfl rfl rfl (by decide +kernel) ⟨Nat.le_of_ble_eq_true rfl, Nat.le_of_ble_eq_true rfl⟩) rfl hl.1 rfl (Nat.le_of_ble_eq_true rfl) dL_law_606 ⟨by show _ ≤ 601024; omega, by show _ ≤ 7293034; omega⟩ (fun r_8 ⟨u0_1, u1_2, u2_3, u3_4, u4_5, u5_6, u8_7⟩ H locs Y hv => ?_)
  refine z_topi hv (fun x5_9 ex5_9 hv => ?_)
  refine lv_istore (lv' := [(5, .int x5_9), (0, .ref b), (1, .ref (a 6 99)), (2, .ref (a 7 99)), (3, .ref (a 8 0)), (4, .int x4)]) hx hb dL_law_609 hl (by decide) rfl (fun ls hl => ?_)
  refine lv_aload_n hx hb dL_law_611 rfl (lv_at hl 3 rfl) ?_
  refine lv_aload_n hx hb dL_law_612 rfl (lv_at hl 1 rfl) ?_
  refine lv_iload hx hb dL_law_613 (lv_at hl 5 rfl) ?_
  refine lv_iconst (v := 1) hx hb dL_law_615 (by decide) ?_
  refine lv_iadd hx hb dL_law_616 ?_
  obtain ⟨hi, hv⟩ := hv
  refine va_sld hx hb hXs hbl hbA Y.2.2 hi dL_law_617 ?_
  refine lv_aload_n hx hb dL_law_618 rfl (lv_at hl 1 rfl) ?_
  refine lv_iload hx hb dL_law_619 (lv_at hl 5 rfl) ?_
  refine lv_iconst (v := 2) hx hb dL_law_621 (by decide) ?_
  refine lv_iadd hx hb dL_law_622 ?_
  obtain ⟨hi, hv⟩ := hv
  refine va_sld hx hb hXs hbl hbA Y.2.2 hi dL_law_623 ?_
  refine lv_aload_n hx hb dL_law_624 rfl (lv_at hl 1 rfl) ?_
  refine lv_iload hx hb dL_law_625 (lv_at hl 5 rfl) ?_
  refine lv_iconst (v := 3) hx hb dL_law_627 (by decide) ?_
  refine lv_iadd hx hb dL_law_628 ?_
  obtain ⟨hi, hv⟩ := hv
  refine va_sld hx hb hXs hbl hbA Y.2.2 hi dL_law_629 ?_
  refine lv_aload_n hx hb dL_law_630 rfl (lv_at hl 1 rfl) ?_
  refine lv_iload hx hb dL_law_631 (lv_at hl 5 rfl) ?_
  refine lv_iconst (v := 4) hx hb dL_law_633 (by decide) ?_
  refine lv_iadd hx hb dL_law_634 ?_
  obtain ⟨hi, hv⟩ := hv
  refine va_sld hx hb hXs hbl hbA Y.2.2 hi dL_law_635 ?_
  refine z_callVi C Y (c_X7_make l hv) (frl_7 ..) (cwV 4 hts gL_law_X7_make rfl rfl rfl (by decide +kernel) ⟨Nat.le_of_ble_eq_true rfl, Nat.le_of_ble_eq_true rfl⟩) (ge7_7 ..) rfl rfl rfl hl.1 rfl (Nat.le_of_ble_eq_true rfl) dL_law_636 ⟨by show _ ≤ 601024; omega, by show _ ≤ 7293034; omega⟩ (fun r_11 u7_10 H locs Y hv => ?_)
  refine z_topi hv (fun x6_12 ex6_12 hv => ?_)
  refine lv_istore (lv' := [(6, .int x6_12), (5, .int x5_9), (0, .ref b), (1, .ref (a 6 99)), (2, .ref (a 7 99)), (3, .ref (a 8 0)), (4, .int x4)]) hx hb dL_law_639 hl (by decide) rfl (fun ls hl => ?_)
  refine lv_aload_n hx hb dL_law_641 rfl (lv_at hl 4 rfl) ?_
  refine z_callVi C Y (c_X7_thrown l hv) (frl_7 ..) (cwV 0 hts gL_law_X7_thrown rfl rfl rfl (by decide +kernel) ⟨Nat.le_of_ble_eq_true rfl, Nat.le_of_ble_eq_true rfl⟩) (ge7_7 ..) rfl rfl rfl hl.1 rfl (Nat.le_of_ble_eq_true rfl) dL_law_642 ⟨by show _ ≤ 601024; omega, by show _ ≤ 7293034; omega⟩ (fun r_14 u7_13 H locs Y hv => ?_)
  refine lv_iload hx hb dL_law_645 (lv_at hl 1 rfl) ?_
  refine lv_icmp_eq (tgt := 652) hx hb dL_law_647 (by decide) (fun hc => ?_) (fun hc => ?_)
  · have hv := hv.1 hc
    refine lv_iload hx hb dL_law_652 (lv_at hl 1 rfl) ?_
    refine lv_if_ne (tgt := 669) hx hb dL_law_654 (by decide) (fun hc => ?_) (fun hc => ?_)
    · have hv := hv.2 hc
      refine lv_goto (tgt := 1375) hx hb dL_law_669 (by decide) ?_
      obtain ⟨x4_15, ex4_15, hv⟩ := z_nv hv
      refine lv_iinc (v := x4_15) (lv' := [(4, .int x4_15), (6, .int x6_12), (5, .int x5_9), (0, .ref b), (1, .ref (a 6 99)), (2, .ref (a 7 99)), (3, .ref (a 8 0))]) hx hb dL_law_1375 hl (k := 6) rfl (by rw [ex4_15]; rfl) (by decide) rfl (fun ls hl => ?_)
      refine lv_goto (tgt := 23) hx hb dL_law_1378 (by decide) ?_
      exact hJ23 _ _ _ _ _ _ _ _ _ _ _ _ _ _ hv Y (lv_sub hl [3, 4, 5, 6, 0] rfl)
    · have hv := hv.1 hc
      refine lv_aload_n hx hb dL_law_657 rfl (lv_at hl 5 rfl) ?_
      refine lv_iconst (v := 0) hx hb dL_law_658 (by decide) ?_
      refine z_ldJ C Y (pal_8_0 ..) z_in01 dL_law_659 ?_
      refine lv_iload hx hb dL_law_660 (lv_at hl 0 rfl) ?_
      refine lv_i2l hx hb dL_law_662 rfl ?_
      refine W.lcmp hx hb dL_law_663 ?_
      refine lv_if_eq (tgt := 669) hx hb dL_law_664 (by decide) (fun hc => ?_) (fun hc => ?_)
      · have hv := hv.1 hc
        refine lv_goto (tgt := 1375) hx hb dL_law_669 (by decide) ?_
        obtain ⟨x4_16, ex4_16, hv⟩ := z_nv hv
        refine lv_iinc (v := x4_16) (lv' := [(4, .int x4_16), (6, .int x6_12), (5, .int x5_9), (0, .ref b), (1, .ref (a 6 99)), (2, .ref (a 7 99)), (3, .ref (a 8 0))]) hx hb dL_law_1375 hl (k := 6) rfl (by rw [ex4_16]; rfl) (by decide) rfl (fun ls hl => ?_)
        refine lv_goto (tgt := 23) hx hb dL_law_1378 (by decide) ?_
        exact hJ23 _ _ _ _ _ _ _ _ _ _ _ _ _ _ hv Y (lv_sub hl [3, 4, 5, 6, 0] rfl)
      · have hv := hv.2 hc
        refine lv_iconst (v := 0) hx hb dL_law_667 (by decide) ?_
        exact hv.elim
  · have hv := hv.2 hc
    refine lv_iconst (v := 0) hx hb dL_law_650 (by decide) ?_
    exact hv.elim

def wp_L_law_1350 (L : Nat) (xs : Nat → Int32) (J23 : Int32 → Nat → Nat → zSt → zSt → zSt → zSt → zSt → zSt → zSt → (Nat → Int64) → Prop) (x4 : Int32) (cs sl : Nat) (u0 : zSt) (u1 : zSt) (u2 : zSt) (u3 : zSt) (u4 : zSt) (u5 : zSt) (u7 : zSt) (u8 : (Nat → Int64)) : Prop :=
  (cs + 1 ≤ 601024 ∧ sl + 6 ≤ 7293034) ∧ (vp_in (x4 + 1) L ∧ (TX6_count (fun (r_7 : Int32) (w_11 : zSt × zSt × zSt × zSt × zSt × zSt) => vp_in (x4 + 1) L ∧ (TX7_count (fun (r_9 : Int32) (u7_8 : zSt) => (r_7 = r_9 → ∀ x4_10 : Int32, x4_10 = x4 + 5 → J23 x4_10 cs sl w_11.1 w_11.2.1 w_11.2.2.1 w_11.2.2.2.1 w_11.2.2.2.2.1 w_11.2.2.2.2.2 u7_8 u8) ∧ (¬ r_7 = r_9 → False)) (xs (x4 + 1).toNatClampNeg) u7)) (xs (x4 + 1).toNatClampNeg) u0 u1 u2 u3 u4 u5))
set_option maxHeartbeats 4000000 in
set_option maxRecDepth 100000 in
theorem bk_L_law_1350 {a : Nat → Nat → Nat} {b L : Nat} {xs : Nat → Int32} {J23 : Int32 → Nat → Nat → zSt → zSt → zSt → zSt → zSt → zSt → zSt → (Nat → Int64) → Prop} {x4 : Int32} {cs sl : Nat} {u0 : zSt} {u1 : zSt} {u2 : zSt} {u3 : zSt} {u4 : zSt} {u5 : zSt} {u7 : zSt} {u8 : (Nat → Int64)} (C : zCx p s m args c cL_law 7 RL wsL_law D cI cZ cJ A) (Y : zDy D A s.heap (kl a cI cZ cJ (u0, u1, u2, u3, u4, u5, u7, u8)) H locs) (hl : lv_has ls 7 [(0, .ref b), (1, .ref (a 6 99)), (2, .ref (a 7 99)), (3, .ref (a 8 0)), (4, .int x4)]) (hlt : l.stackTraces = false) (hX : zXe A s s.heap) (hXs : va_X b L xs s s.heap) (hbl : b < s.heap.size) (hbA : ¬ A b) (hret : ∀ {pc : Nat} {H : Heap} {locs : List Loc} {ls : Array Slot} {cs sl : Nat} {u0 : zSt} {u1 : zSt} {u2 : zSt} {u3 : zSt} {u4 : zSt} {u5 : zSt} {u7 : zSt} {u8 : (Nat → Int64)}, zDy D A s.heap (kl a cI cZ cJ (u0, u1, u2, u3, u4, u5, u7, u8)) H locs → (cs ≤ 601024 ∧ sl ≤ 7293034) → decode cL_law pc = .ok (.ireturn, 1) → W p l e room_1 s m args below meth c H locs cs sl Q (F0 m pc ls [.int 1])) (hJ23 : ∀ (x4 : Int32) (cs sl : Nat) (u0 : zSt) (u1 : zSt) (u2 : zSt) (u3 : zSt) (u4 : zSt) (u5 : zSt) (u7 : zSt) (u8 : (Nat → Int64)) (H : Heap) (locs : List Loc) (ls : Array Slot), J23 x4 cs sl u0 u1 u2 u3 u4 u5 u7 u8 → zDy D A s.heap (kl a cI cZ cJ (u0, u1, u2, u3, u4, u5, u7, u8)) H locs → lv_has ls 7 [(0, .ref b), (1, .ref (a 6 99)), (2, .ref (a 7 99)), (3, .ref (a 8 0)), (4, .int x4)] → W p l e room_1 s m args below meth c H locs cs sl Q (F0 m 23 ls [])) (hv : wp_L_law_1350 L xs J23 x4 cs sl u0 u1 u2 u3 u4 u5 u7 u8) : W p l e room_1 s m args below meth c H locs cs sl Q (F0 m 1350 ls []) := by
  unfold wp_L_law_1350 at hv
  obtain ⟨hcs, hv⟩ := hv
  obtain ⟨hx, hb, hml, hown, hts, hK, hA⟩ := id C
  refine lv_aload_n hx hb dL_law_1350 rfl (lv_at hl 1 rfl) ?_
  refine lv_aload_n hx hb dL_law_1351 rfl (lv_at hl 0 rfl) ?_
  refine lv_iload hx hb dL_law_1352 (lv_at hl 4 rfl) ?_
  refine lv_iconst (v := 1) hx hb dL_law_1354 (by decide) ?_
  refine lv_iadd hx hb dL_law_1355 ?_
  obtain ⟨hi, hv⟩ := hv
  refine va_sld hx hb hXs hbl hbA Y.2.2 hi dL_law_1356 ?_
  refine z_callVi C Y (c_X6_count l hv) (frl_6 ..) (cwV 1 hts gL_law_X6_count rfl rfl rfl (by decide +kernel) ⟨Nat.le_of_ble_eq_true rfl, Nat.le_of_ble_eq_true rfl⟩) (ge6_6 ..) rfl rfl rfl hl.1 rfl (Nat.le_of_ble_eq_true rfl) dL_law_1357 ⟨by show _ ≤ 601024; omega, by show _ ≤ 7293034; omega⟩ (fun r_7 ⟨u0_1, u1_2, u2_3, u3_4, u4_5, u5_6⟩ H locs Y hv => ?_)
  refine lv_aload_n hx hb dL_law_1360 rfl (lv_at hl 2 rfl) ?_
  refine lv_aload_n hx hb dL_law_1361 rfl (lv_at hl 0 rfl) ?_
  refine lv_iload hx hb dL_law_1362 (lv_at hl 4 rfl) ?_
  refine lv_iconst (v := 1) hx hb dL_law_1364 (by decide) ?_
  refine lv_iadd hx hb dL_law_1365 ?_
  obtain ⟨hi, hv⟩ := hv
  refine va_sld hx hb hXs hbl hbA Y.2.2 hi dL_law_1366 ?_
  refine z_callVi C Y (c_X7_count l hv) (frl_7 ..) (cwV 1 hts gL_law_X7_count rfl rfl rfl (by decide +kernel) ⟨Nat.le_of_ble_eq_true rfl, Nat.le_of_ble_eq_true rfl⟩) (ge7_7 ..) rfl rfl rfl hl.1 rfl (Nat.le_of_ble_eq_true rfl) dL_law_1367 ⟨by show _ ≤ 601024; omega, by show _ ≤ 7293034; omega⟩ (fun r_9 u7_8 H locs Y hv => ?_)
  refine lv_icmp_eq (tgt := 1375) hx hb dL_law_1370 (by decide) (fun hc => ?_) (fun hc => ?_)
  · have hv := hv.1 hc
    obtain ⟨x4_10, ex4_10, hv⟩ := z_nv hv
    refine lv_iinc (v := x4_10) (lv' := [(4, .int x4_10), (0, .ref b), (1, .ref (a 6 99)), (2, .ref (a 7 99)), (3, .ref (a 8 0))]) hx hb dL_law_1375 hl (k := 4) rfl (by rw [ex4_10]; rfl) (by decide) rfl (fun ls hl => ?_)
    refine lv_goto (tgt := 23) hx hb dL_law_1378 (by decide) ?_
    exact hJ23 _ _ _ _ _ _ _ _ _ _ _ _ _ _ hv Y (lv_sub hl [1, 2, 3, 4, 0] rfl)
  · have hv := hv.2 hc
    refine lv_iconst (v := 0) hx hb dL_law_1373 (by decide) ?_
    exact hv.elim

def wp_L_law_1245 (L : Nat) (xs : Nat → Int32) (J23 : Int32 → Nat → Nat → zSt → zSt → zSt → zSt → zSt → zSt → zSt → (Nat → Int64) → Prop) (x4 : Int32) (cs sl : Nat) (u0 : zSt) (u1 : zSt) (u2 : zSt) (u3 : zSt) (u4 : zSt) (u5 : zSt) (u7 : zSt) (u8 : (Nat → Int64)) : Prop :=
  (cs + 1 ≤ 601024 ∧ sl + 6 ≤ 7293034) ∧ (vp_in (x4 + 1) L ∧ (TL_job (fun (r_8 : Int32) (w_17 : zSt × zSt × zSt × zSt × zSt × zSt × (Nat → Int64)) => ∀ x5_9 : Int32, x5_9 = r_8 → vp_in (x4 + 1) L ∧ (TX7_job (fun (r_11 : Int32) (u7_10 : zSt) => ∀ x6_12 : Int32, x6_12 = r_11 → TX7_thrown (fun (r_14 : Int32) (u7_13 : zSt) => (r_14 = x5_9 → (x5_9 = (0 : Int32) → ((lg_cmp (w_17.2.2.2.2.2.2 (0 : Int32).toNatClampNeg) ((x6_12 : Int32).toInt64)) = (0 : Int32) → ∀ x4_16 : Int32, x4_16 = x4 + 5 → J23 x4_16 (cs + 1) (sl + 6) w_17.1 w_17.2.1 w_17.2.2.1 w_17.2.2.2.1 w_17.2.2.2.2.1 w_17.2.2.2.2.2.1 u7_13 w_17.2.2.2.2.2.2) ∧ (¬ (lg_cmp (w_17.2.2.2.2.2.2 (0 : Int32).toNatClampNeg) ((x6_12 : Int32).toInt64)) = (0 : Int32) → False)) ∧ (¬ x5_9 = (0 : Int32) → ∀ x4_15 : Int32, x4_15 = x4 + 5 → J23 x4_15 (cs + 1) (sl + 6) w_17.1 w_17.2.1 w_17.2.2.1 w_17.2.2.2.1 w_17.2.2.2.2.1 w_17.2.2.2.2.2.1 u7_13 w_17.2.2.2.2.2.2)) ∧ (¬ r_14 = x5_9 → False))  u7_10) (xs (x4 + 1).toNatClampNeg) u7)) (xs (x4 + 1).toNatClampNeg) u0 u1 u2 u3 u4 u5 u8))
set_option maxHeartbeats 4000000 in
set_option maxRecDepth 100000 in
theorem bk_L_law_1245 {a : Nat → Nat → Nat} {b L : Nat} {xs : Nat → Int32} {J23 : Int32 → Nat → Nat → zSt → zSt → zSt → zSt → zSt → zSt → zSt → (Nat → Int64) → Prop} {x4 : Int32} {cs sl : Nat} {u0 : zSt} {u1 : zSt} {u2 : zSt} {u3 : zSt} {u4 : zSt} {u5 : zSt} {u7 : zSt} {u8 : (Nat → Int64)} (C : zCx p s m args c cL_law 7 RL wsL_law D cI cZ cJ A) (Y : zDy D A s.heap (kl a cI cZ cJ (u0, u1, u2, u3, u4, u5, u7, u8)) H locs) (hl : lv_has ls 7 [(0, .ref b), (1, .ref (a 6 99)), (2, .ref (a 7 99)), (3, .ref (a 8 0)), (4, .int x4)]) (hlt : l.stackTraces = false) (hX : zXe A s s.heap) (hXs : va_X b L xs s s.heap) (hbl : b < s.heap.size) (hbA : ¬ A b) (hret : ∀ {pc : Nat} {H : Heap} {locs : List Loc} {ls : Array Slot} {cs sl : Nat} {u0 : zSt} {u1 : zSt} {u2 : zSt} {u3 : zSt} {u4 : zSt} {u5 : zSt} {u7 : zSt} {u8 : (Nat → Int64)}, zDy D A s.heap (kl a cI cZ cJ (u0, u1, u2, u3, u4, u5, u7, u8)) H locs → (cs ≤ 601024 ∧ sl ≤ 7293034) → decode cL_law pc = .ok (.ireturn, 1) → W p l e room_1 s m args below meth c H locs cs sl Q (F0 m pc ls [.int 1])) (hJ23 : ∀ (x4 : Int32) (cs sl : Nat) (u0 : zSt) (u1 : zSt) (u2 : zSt) (u3 : zSt) (u4 : zSt) (u5 : zSt) (u7 : zSt) (u8 : (Nat → Int64)) (H : Heap) (locs : List Loc) (ls : Array Slot), J23 x4 cs sl u0 u1 u2 u3 u4 u5 u7 u8 → zDy D A s.heap (kl a cI cZ cJ (u0, u1, u2, u3, u4, u5, u7, u8)) H locs → lv_has ls 7 [(0, .ref b), (1, .ref (a 6 99)), (2, .ref (a 7 99)), (3, .ref (a 8 0)), (4, .int x4)] → W p l e room_1 s m args below meth c H locs cs sl Q (F0 m 23 ls [])) (hv : wp_L_law_1245 L xs J23 x4 cs sl u0 u1 u2 u3 u4 u5 u7 u8) : W p l e room_1 s m args below meth c H locs cs sl Q (F0 m 1245 ls []) := by
  unfold wp_L_law_1245 at hv
  obtain ⟨hcs, hv⟩ := hv
  obtain ⟨hx, hb, hml, hown, hts, hK, hA⟩ := id C
  refine lv_aload_n hx hb dL_law_1245 rfl (lv_at hl 1 rfl) ?_
  refine lv_aload_n hx hb dL_law_1246 rfl (lv_at hl 0 rfl) ?_
  refine lv_iload hx hb dL_law_1247 (lv_at hl 4 rfl) ?_
  refine lv_iconst (v := 1) hx hb dL_law_1249 (by decide) ?_
  refine lv_iadd hx hb dL_law_1250 ?_
  obtain ⟨hi, hv⟩ := hv
  refine va_sld hx hb hXs hbl hbA Y.2.2 hi dL_law_1251 ?_
  refine lv_aload_n hx hb dL_law_1252 rfl (lv_at hl 3 rfl) ?_
  refine z_callW C Y hX (c_L_job l hlt hv) (frl_w ..) (vx_cwSW 3 hts gL_law_L_job rfl rfl rfl (by decide +kernel) ⟨Nat.le_of_ble_eq_true rfl, Nat.le_of_ble_eq_true rfl⟩) rfl hl.1 rfl (Nat.le_of_ble_eq_true rfl) dL_law_1253 ⟨by show _ ≤ 601024; omega, by show _ ≤ 7293034; omega⟩ (fun r_8 ⟨u0_1, u1_2, u2_3, u3_4, u4_5, u5_6, u8_7⟩ H locs Y hv => ?_)
  refine z_topi hv (fun x5_9 ex5_9 hv => ?_)
  refine lv_istore (lv' := [(5, .int x5_9), (0, .ref b), (1, .ref (a 6 99)), (2, .ref (a 7 99)), (3, .ref (a 8 0)), (4, .int x4)]) hx hb dL_law_1256 hl (by decide) rfl (fun ls hl => ?_)
  refine lv_aload_n hx hb dL_law_1258 rfl (lv_at hl 3 rfl) ?_
  refine lv_aload_n hx hb dL_law_1259 rfl (lv_at hl 1 rfl) ?_
  refine lv_iload hx hb dL_law_1260 (lv_at hl 5 rfl) ?_
  refine lv_iconst (v := 1) hx hb dL_law_1262 (by decide) ?_
  refine lv_iadd hx hb dL_law_1263 ?_
  obtain ⟨hi, hv⟩ := hv
  refine va_sld hx hb hXs hbl hbA Y.2.2 hi dL_law_1264 ?_
  refine z_callVi C Y (c_X7_job l hv) (frl_7 ..) (cwV 1 hts gL_law_X7_job rfl rfl rfl (by decide +kernel) ⟨Nat.le_of_ble_eq_true rfl, Nat.le_of_ble_eq_true rfl⟩) (ge7_7 ..) rfl rfl rfl hl.1 rfl (Nat.le_of_ble_eq_true rfl) dL_law_1265 ⟨by show _ ≤ 601024; omega, by show _ ≤ 7293034; omega⟩ (fun r_11 u7_10 H locs Y hv => ?_)
  refine z_topi hv (fun x6_12 ex6_12 hv => ?_)
  refine lv_istore (lv' := [(6, .int x6_12), (5, .int x5_9), (0, .ref b), (1, .ref (a 6 99)), (2, .ref (a 7 99)), (3, .ref (a 8 0)), (4, .int x4)]) hx hb dL_law_1268 hl (by decide) rfl (fun ls hl => ?_)
  refine lv_aload_n hx hb dL_law_1270 rfl (lv_at hl 4 rfl) ?_
  refine z_callVi C Y (c_X7_thrown l hv) (frl_7 ..) (cwV 0 hts gL_law_X7_thrown rfl rfl rfl (by decide +kernel) ⟨Nat.le_of_ble_eq_true rfl, Nat.le_of_ble_eq_true rfl⟩) (ge7_7 ..) rfl rfl rfl hl.1 rfl (Nat.le_of_ble_eq_true rfl) dL_law_1271 ⟨by show _ ≤ 601024; omega, by show _ ≤ 7293034; omega⟩ (fun r_14 u7_13 H locs Y hv => ?_)
  refine lv_iload hx hb dL_law_1274 (lv_at hl 1 rfl) ?_
  refine lv_icmp_eq (tgt := 1281) hx hb dL_law_1276 (by decide) (fun hc => ?_) (fun hc => ?_)
  · have hv := hv.1 hc
    refine lv_iload hx hb dL_law_1281 (lv_at hl 1 rfl) ?_
    refine lv_if_ne (tgt := 1298) hx hb dL_law_1283 (by decide) (fun hc => ?_) (fun hc => ?_)
    · have hv := hv.2 hc
      refine lv_goto (tgt := 1375) hx hb dL_law_1298 (by decide) ?_
      obtain ⟨x4_15, ex4_15, hv⟩ := z_nv hv
      refine lv_iinc (v := x4_15) (lv' := [(4, .int x4_15), (6, .int x6_12), (5, .int x5_9), (0, .ref b), (1, .ref (a 6 99)), (2, .ref (a 7 99)), (3, .ref (a 8 0))]) hx hb dL_law_1375 hl (k := 6) rfl (by rw [ex4_15]; rfl) (by decide) rfl (fun ls hl => ?_)
      refine lv_goto (tgt := 23) hx hb dL_law_1378 (by decide) ?_
      exact hJ23 _ _ _ _ _ _ _ _ _ _ _ _ _ _ hv Y (lv_sub hl [3, 4, 5, 6, 0] rfl)
    · have hv := hv.1 hc
      refine lv_aload_n hx hb dL_law_1286 rfl (lv_at hl 5 rfl) ?_
      refine lv_iconst (v := 0) hx hb dL_law_1287 (by decide) ?_
      refine z_ldJ C Y (pal_8_0 ..) z_in01 dL_law_1288 ?_
      refine lv_iload hx hb dL_law_1289 (lv_at hl 0 rfl) ?_
      refine lv_i2l hx hb dL_law_1291 rfl ?_
      refine W.lcmp hx hb dL_law_1292 ?_
      refine lv_if_eq (tgt := 1298) hx hb dL_law_1293 (by decide) (fun hc => ?_) (fun hc => ?_)
      · have hv := hv.1 hc
        refine lv_goto (tgt := 1375) hx hb dL_law_1298 (by decide) ?_
        obtain ⟨x4_16, ex4_16, hv⟩ := z_nv hv
        refine lv_iinc (v := x4_16) (lv' := [(4, .int x4_16), (6, .int x6_12), (5, .int x5_9), (0, .ref b), (1, .ref (a 6 99)), (2, .ref (a 7 99)), (3, .ref (a 8 0))]) hx hb dL_law_1375 hl (k := 6) rfl (by rw [ex4_16]; rfl) (by decide) rfl (fun ls hl => ?_)
        refine lv_goto (tgt := 23) hx hb dL_law_1378 (by decide) ?_
        exact hJ23 _ _ _ _ _ _ _ _ _ _ _ _ _ _ hv Y (lv_sub hl [3, 4, 5, 6, 0] rfl)
      · have hv := hv.2 hc
        refine lv_iconst (v := 0) hx hb dL_law_1296 (by decide) ?_
        exact hv.elim
  · have hv := hv.2 hc
    refine lv_iconst (v := 0) hx hb dL_law_1279 (by decide) ?_
    exact hv.elim

def wp_L_law_228 (L : Nat) (xs : Nat → Int32) (J23 : Int32 → Nat → Nat → zSt → zSt → zSt → zSt → zSt → zSt → zSt → (Nat → Int64) → Prop) (x4 : Int32) (cs sl : Nat) (u0 : zSt) (u1 : zSt) (u2 : zSt) (u3 : zSt) (u4 : zSt) (u5 : zSt) (u7 : zSt) (u8 : (Nat → Int64)) : Prop :=
  (cs + 1 ≤ 601024 ∧ sl + 6 ≤ 7293034) ∧ (vp_in (x4 + 1) L ∧ (vp_in (x4 + 2) L ∧ (TL_bring (fun (r_8 : Int32) (w_17 : zSt × zSt × zSt × zSt × zSt × zSt × (Nat → Int64)) => ∀ x5_9 : Int32, x5_9 = r_8 → vp_in (x4 + 1) L ∧ (vp_in (x4 + 2) L ∧ (TX7_bring (fun (r_11 : Int32) (u7_10 : zSt) => ∀ x6_12 : Int32, x6_12 = r_11 → TX7_thrown (fun (r_14 : Int32) (u7_13 : zSt) => (r_14 = x5_9 → (x5_9 = (0 : Int32) → ((lg_cmp (w_17.2.2.2.2.2.2 (0 : Int32).toNatClampNeg) ((x6_12 : Int32).toInt64)) = (0 : Int32) → ∀ x4_16 : Int32, x4_16 = x4 + 5 → J23 x4_16 (cs + 1) (sl + 6) w_17.1 w_17.2.1 w_17.2.2.1 w_17.2.2.2.1 w_17.2.2.2.2.1 w_17.2.2.2.2.2.1 u7_13 w_17.2.2.2.2.2.2) ∧ (¬ (lg_cmp (w_17.2.2.2.2.2.2 (0 : Int32).toNatClampNeg) ((x6_12 : Int32).toInt64)) = (0 : Int32) → False)) ∧ (¬ x5_9 = (0 : Int32) → ∀ x4_15 : Int32, x4_15 = x4 + 5 → J23 x4_15 (cs + 1) (sl + 6) w_17.1 w_17.2.1 w_17.2.2.1 w_17.2.2.2.1 w_17.2.2.2.2.1 w_17.2.2.2.2.2.1 u7_13 w_17.2.2.2.2.2.2)) ∧ (¬ r_14 = x5_9 → False))  u7_10) (xs (x4 + 1).toNatClampNeg) (xs (x4 + 2).toNatClampNeg) u7))) (xs (x4 + 1).toNatClampNeg) (xs (x4 + 2).toNatClampNeg) u0 u1 u2 u3 u4 u5 u8)))
set_option maxHeartbeats 4000000 in
set_option maxRecDepth 100000 in
theorem bk_L_law_228 {a : Nat → Nat → Nat} {b L : Nat} {xs : Nat → Int32} {J23 : Int32 → Nat → Nat → zSt → zSt → zSt → zSt → zSt → zSt → zSt → (Nat → Int64) → Prop} {x4 : Int32} {cs sl : Nat} {u0 : zSt} {u1 : zSt} {u2 : zSt} {u3 : zSt} {u4 : zSt} {u5 : zSt} {u7 : zSt} {u8 : (Nat → Int64)} (C : zCx p s m args c cL_law 7 RL wsL_law D cI cZ cJ A) (Y : zDy D A s.heap (kl a cI cZ cJ (u0, u1, u2, u3, u4, u5, u7, u8)) H locs) (hl : lv_has ls 7 [(0, .ref b), (1, .ref (a 6 99)), (2, .ref (a 7 99)), (3, .ref (a 8 0)), (4, .int x4)]) (hlt : l.stackTraces = false) (hX : zXe A s s.heap) (hXs : va_X b L xs s s.heap) (hbl : b < s.heap.size) (hbA : ¬ A b) (hret : ∀ {pc : Nat} {H : Heap} {locs : List Loc} {ls : Array Slot} {cs sl : Nat} {u0 : zSt} {u1 : zSt} {u2 : zSt} {u3 : zSt} {u4 : zSt} {u5 : zSt} {u7 : zSt} {u8 : (Nat → Int64)}, zDy D A s.heap (kl a cI cZ cJ (u0, u1, u2, u3, u4, u5, u7, u8)) H locs → (cs ≤ 601024 ∧ sl ≤ 7293034) → decode cL_law pc = .ok (.ireturn, 1) → W p l e room_1 s m args below meth c H locs cs sl Q (F0 m pc ls [.int 1])) (hJ23 : ∀ (x4 : Int32) (cs sl : Nat) (u0 : zSt) (u1 : zSt) (u2 : zSt) (u3 : zSt) (u4 : zSt) (u5 : zSt) (u7 : zSt) (u8 : (Nat → Int64)) (H : Heap) (locs : List Loc) (ls : Array Slot), J23 x4 cs sl u0 u1 u2 u3 u4 u5 u7 u8 → zDy D A s.heap (kl a cI cZ cJ (u0, u1, u2, u3, u4, u5, u7, u8)) H locs → lv_has ls 7 [(0, .ref b), (1, .ref (a 6 99)), (2, .ref (a 7 99)), (3, .ref (a 8 0)), (4, .int x4)] → W p l e room_1 s m args below meth c H locs cs sl Q (F0 m 23 ls [])) (hv : wp_L_law_228 L xs J23 x4 cs sl u0 u1 u2 u3 u4 u5 u7 u8) : W p l e room_1 s m args below meth c H locs cs sl Q (F0 m 228 ls []) := by
  unfold wp_L_law_228 at hv
  obtain ⟨hcs, hv⟩ := hv
  obtain ⟨hx, hb, hml, hown, hts, hK, hA⟩ := id C
  refine lv_aload_n hx hb dL_law_228 rfl (lv_at hl 1 rfl) ?_
  refine lv_aload_n hx hb dL_law_229 rfl (lv_at hl 0 rfl) ?_
  refine lv_iload hx hb dL_law_230 (lv_at hl 4 rfl) ?_
  refine lv_iconst (v := 1) hx hb dL_law_232 (by decide) ?_
  refine lv_iadd hx hb dL_law_233 ?_
  obtain ⟨hi, hv⟩ := hv
  refine va_sld hx hb hXs hbl hbA Y.2.2 hi dL_law_234 ?_
  refine lv_aload_n hx hb dL_law_235 rfl (lv_at hl 0 rfl) ?_
  refine lv_iload hx hb dL_law_236 (lv_at hl 4 rfl) ?_
  refine lv_iconst (v := 2) hx hb dL_law_238 (by decide) ?_
  refine lv_iadd hx hb dL_law_239 ?_
  obtain ⟨hi, hv⟩ := hv
  refine va_sld hx hb hXs hbl hbA Y.2.2 hi dL_law_240 ?_
  refine lv_aload_n hx hb dL_law_241 rfl (lv_at hl 3 rfl) ?_
  refine z_callW C Y hX (c_L_bring l hlt hv) (frl_w ..) (vx_cwSW 4 hts gL_law_L_bring rfl rfl rfl (by decide +kernel) ⟨Nat.le_of_ble_eq_true rfl, Nat.le_of_ble_eq_true rfl⟩) rfl hl.1 rfl (Nat.le_of_ble_eq_true rfl) dL_law_242 ⟨by show _ ≤ 601024; omega, by show _ ≤ 7293034; omega⟩ (fun r_8 ⟨u0_1, u1_2, u2_3, u3_4, u4_5, u5_6, u8_7⟩ H locs Y hv => ?_)
  refine z_topi hv (fun x5_9 ex5_9 hv => ?_)
  refine lv_istore (lv' := [(5, .int x5_9), (0, .ref b), (1, .ref (a 6 99)), (2, .ref (a 7 99)), (3, .ref (a 8 0)), (4, .int x4)]) hx hb dL_law_245 hl (by decide) rfl (fun ls hl => ?_)
  refine lv_aload_n hx hb dL_law_247 rfl (lv_at hl 3 rfl) ?_
  refine lv_aload_n hx hb dL_law_248 rfl (lv_at hl 1 rfl) ?_
  refine lv_iload hx hb dL_law_249 (lv_at hl 5 rfl) ?_
  refine lv_iconst (v := 1) hx hb dL_law_251 (by decide) ?_
  refine lv_iadd hx hb dL_law_252 ?_
  obtain ⟨hi, hv⟩ := hv
  refine va_sld hx hb hXs hbl hbA Y.2.2 hi dL_law_253 ?_
  refine lv_aload_n hx hb dL_law_254 rfl (lv_at hl 1 rfl) ?_
  refine lv_iload hx hb dL_law_255 (lv_at hl 5 rfl) ?_
  refine lv_iconst (v := 2) hx hb dL_law_257 (by decide) ?_
  refine lv_iadd hx hb dL_law_258 ?_
  obtain ⟨hi, hv⟩ := hv
  refine va_sld hx hb hXs hbl hbA Y.2.2 hi dL_law_259 ?_
  refine z_callVi C Y (c_X7_bring l hv) (frl_7 ..) (cwV 2 hts gL_law_X7_bring rfl rfl rfl (by decide +kernel) ⟨Nat.le_of_ble_eq_true rfl, Nat.le_of_ble_eq_true rfl⟩) (ge7_7 ..) rfl rfl rfl hl.1 rfl (Nat.le_of_ble_eq_true rfl) dL_law_260 ⟨by show _ ≤ 601024; omega, by show _ ≤ 7293034; omega⟩ (fun r_11 u7_10 H locs Y hv => ?_)
  refine z_topi hv (fun x6_12 ex6_12 hv => ?_)
  refine lv_istore (lv' := [(6, .int x6_12), (5, .int x5_9), (0, .ref b), (1, .ref (a 6 99)), (2, .ref (a 7 99)), (3, .ref (a 8 0)), (4, .int x4)]) hx hb dL_law_263 hl (by decide) rfl (fun ls hl => ?_)
  refine lv_aload_n hx hb dL_law_265 rfl (lv_at hl 4 rfl) ?_
  refine z_callVi C Y (c_X7_thrown l hv) (frl_7 ..) (cwV 0 hts gL_law_X7_thrown rfl rfl rfl (by decide +kernel) ⟨Nat.le_of_ble_eq_true rfl, Nat.le_of_ble_eq_true rfl⟩) (ge7_7 ..) rfl rfl rfl hl.1 rfl (Nat.le_of_ble_eq_true rfl) dL_law_266 ⟨by show _ ≤ 601024; omega, by show _ ≤ 7293034; omega⟩ (fun r_14 u7_13 H locs Y hv => ?_)
  refine lv_iload hx hb dL_law_269 (lv_at hl 1 rfl) ?_
  refine lv_icmp_eq (tgt := 276) hx hb dL_law_271 (by decide) (fun hc => ?_) (fun hc => ?_)
  · have hv := hv.1 hc
    refine lv_iload hx hb dL_law_276 (lv_at hl 1 rfl) ?_
    refine lv_if_ne (tgt := 293) hx hb dL_law_278 (by decide) (fun hc => ?_) (fun hc => ?_)
    · have hv := hv.2 hc
      refine lv_goto (tgt := 1375) hx hb dL_law_293 (by decide) ?_
      obtain ⟨x4_15, ex4_15, hv⟩ := z_nv hv
      refine lv_iinc (v := x4_15) (lv' := [(4, .int x4_15), (6, .int x6_12), (5, .int x5_9), (0, .ref b), (1, .ref (a 6 99)), (2, .ref (a 7 99)), (3, .ref (a 8 0))]) hx hb dL_law_1375 hl (k := 6) rfl (by rw [ex4_15]; rfl) (by decide) rfl (fun ls hl => ?_)
      refine lv_goto (tgt := 23) hx hb dL_law_1378 (by decide) ?_
      exact hJ23 _ _ _ _ _ _ _ _ _ _ _ _ _ _ hv Y (lv_sub hl [3, 4, 5, 6, 0] rfl)
    · have hv := hv.1 hc
      refine lv_aload_n hx hb dL_law_281 rfl (lv_at hl 5 rfl) ?_
      refine lv_iconst (v := 0) hx hb dL_law_282 (by decide) ?_
      refine z_ldJ C Y (pal_8_0 ..) z_in01 dL_law_283 ?_
      refine lv_iload hx hb dL_law_284 (lv_at hl 0 rfl) ?_
      refine lv_i2l hx hb dL_law_286 rfl ?_
      refine W.lcmp hx hb dL_law_287 ?_
      refine lv_if_eq (tgt := 293) hx hb dL_law_288 (by decide) (fun hc => ?_) (fun hc => ?_)
      · have hv := hv.1 hc
        refine lv_goto (tgt := 1375) hx hb dL_law_293 (by decide) ?_
        obtain ⟨x4_16, ex4_16, hv⟩ := z_nv hv
        refine lv_iinc (v := x4_16) (lv' := [(4, .int x4_16), (6, .int x6_12), (5, .int x5_9), (0, .ref b), (1, .ref (a 6 99)), (2, .ref (a 7 99)), (3, .ref (a 8 0))]) hx hb dL_law_1375 hl (k := 6) rfl (by rw [ex4_16]; rfl) (by decide) rfl (fun ls hl => ?_)
        refine lv_goto (tgt := 23) hx hb dL_law_1378 (by decide) ?_
        exact hJ23 _ _ _ _ _ _ _ _ _ _ _ _ _ _ hv Y (lv_sub hl [3, 4, 5, 6, 0] rfl)
      · have hv := hv.2 hc
        refine lv_iconst (v := 0) hx hb dL_law_291 (by decide) ?_
        exact hv.elim
  · have hv := hv.2 hc
    refine lv_iconst (v := 0) hx hb dL_law_274 (by decide) ?_
    exact hv.elim

end
