def TL_earth (Q1 : Int32 → (zSt × zSt × zSt × zSt × zSt × zSt × (Nat → Int64)) → Prop) (p1 : Int32) (p2 : Int32) (p3 : Int32) (p4 : Int32) (u0 : zSt) (u1 : zSt) (u2 : zSt) (u3 : zSt) (u4 : zSt) (u5 : zSt) (u8 : (Nat → Int64)) : Prop :=
  TX6_earth (fun (r_7 : Int32) (w_8 : zSt × zSt × zSt × zSt × zSt × zSt) => Q1 0 (w_8.1, w_8.2.1, w_8.2.2.1, w_8.2.2.2.1, w_8.2.2.2.2.1, w_8.2.2.2.2.2, (vp_updL u8 (0 : Int32).toNatClampNeg ((r_7 : Int32).toInt64)))) (fun (E : String) (w_8 : zSt × zSt × zSt × zSt × zSt × zSt) => (E = zIAE ∧ Q1 1 (w_8.1, w_8.2.1, w_8.2.2.1, w_8.2.2.2.1, w_8.2.2.2.2.1, w_8.2.2.2.2.2, u8)) ∨ (E = zUOE ∧ Q1 2 (w_8.1, w_8.2.1, w_8.2.2.1, w_8.2.2.2.1, w_8.2.2.2.2.1, w_8.2.2.2.2.2, u8))) p1 p2 p3 p4 u0 u1 u2 u3 u4 u5
set_option maxHeartbeats 4000000 in
set_option maxRecDepth 100000 in
theorem c_L_earth (l : Launch) (hlt : l.stackTraces = false) {D : va_G} {cI cZ cJ : ClassId} {a : Nat → Nat → Nat} {Q1 : Int32 → (zSt × zSt × zSt × zSt × zSt × zSt × (Nat → Int64)) → Prop} {p1 : Int32} {p2 : Int32} {p3 : Int32} {p4 : Int32} {u0 : zSt} {u1 : zSt} {u2 : zSt} {u3 : zSt} {u4 : zSt} {u5 : zSt} {u8 : Nat → Int64} (hv : TL_earth Q1 p1 p2 p3 p4 u0 u1 u2 u3 u4 u5 u8) : zWI l yL_earth wsL_earth ({ frames := 7, cells := 1, slots := 6, locals := 114 } : Room) D cI cZ cJ [.ref (a 6 99), .int p1, .int p2, .int p3, .int p4, .ref (a 8 0)] (kw a cI cZ cJ (u0, u1, u2, u3, u4, u5, u8)) (fun u : zSt × zSt × zSt × zSt × zSt × zSt × (Nat → Int64) => kw a cI cZ cJ u) Q1 := by
  unfold TL_earth at hv
  refine z_ofW (by decide) rfl rfl (Nat.le_of_ble_eq_true rfl) (@fun p e s m args below meth c A Q ls C Y hX htab hl hret => ?_)
  obtain ⟨hx, hb, hml, hown, hts, hK, hA⟩ := id C
  have hl : lv_has ls 7 [(0, .ref (a 6 99)), (1, .int p1), (2, .int p2), (3, .int p3), (4, .int p4), (5, .ref (a 8 0))] := hl
  refine lv_aload hx hb dL_earth_0 (lv_at hl 5 rfl) ?_
  refine lv_iconst (v := 0) hx hb dL_earth_2 (by decide) ?_
  refine lv_aload_n hx hb dL_earth_3 rfl (lv_at hl 0 rfl) ?_
  refine lv_iload_n hx hb dL_earth_4 rfl (lv_at hl 1 rfl) ?_
  refine lv_iload_n hx hb dL_earth_5 rfl (lv_at hl 2 rfl) ?_
  refine lv_iload_n hx hb dL_earth_6 rfl (lv_at hl 3 rfl) ?_
  refine lv_iload hx hb dL_earth_7 (lv_at hl 4 rfl) ?_
  refine z_callXi C Y hX (c_X6_earth l hlt hv) (frw_6 ..) (cwV 4 hts gL_earth_X6_earth rfl rfl rfl (by decide +kernel) ⟨Nat.le_of_ble_eq_true rfl, Nat.le_of_ble_eq_true rfl⟩) (ge6_6 ..) rfl rfl rfl hl.1 rfl (Nat.le_of_ble_eq_true rfl) dL_earth_9 ⟨Nat.le_of_ble_eq_true rfl, Nat.le_of_ble_eq_true rfl⟩ (fun E ce q9 ⟨u0_1, u1_2, u2_3, u3_4, u4_5, u5_6⟩ H locs Y hv hce hcv hcl => ?_) (fun r_7 ⟨u0_1, u1_2, u2_3, u3_4, u4_5, u5_6⟩ H locs Y hv => ?_)
  · rcases hv with ⟨rfl, hv⟩ | ⟨rfl, hv⟩
    · refine vx_catch (name := zIAE) hown [] ⟨0, 14, 17, 13⟩ [⟨0, 14, 21, 15⟩] (htab.trans rfl) (fun z hz => by cases hz) (by decide) (by decide) (hts (.classLink RL 13 zIAE) (by decide +kernel)) (zBw_use hX.2.2.2.1 (.castable zIAE zIAE) (by decide +kernel)) hce hcv hcl ?_
      refine lv_astore (lv' := [(6, .ref q9), (0, .ref (a 6 99)), (1, .int p1), (2, .int p2), (3, .int p3), (4, .int p4), (5, .ref (a 8 0))]) hx hb dL_earth_17 hl (by decide) rfl (fun ls hl => ?_)
      refine lv_iconst (v := 1) hx hb dL_earth_19 (by decide) ?_
      exact hret Y hv dL_earth_20
    · refine vx_catch (name := zUOE) hown [⟨0, 14, 17, 13⟩] ⟨0, 14, 21, 15⟩ [] (htab.trans rfl) (fun z hz => by cases List.mem_singleton.mp hz; exact Or.inr ⟨by decide, zIAE, hts (.classLink RL 13 zIAE) (by decide +kernel), hX.2.2.2.2 (zUOE, zIAE) (by decide +kernel)⟩) (by decide) (by decide) (hts (.classLink RL 15 zUOE) (by decide +kernel)) (zBw_use hX.2.2.2.1 (.castable zUOE zUOE) (by decide +kernel)) hce hcv hcl ?_
      refine lv_astore (lv' := [(6, .ref q9), (0, .ref (a 6 99)), (1, .int p1), (2, .int p2), (3, .int p3), (4, .int p4), (5, .ref (a 8 0))]) hx hb dL_earth_21 hl (by decide) rfl (fun ls hl => ?_)
      refine lv_iconst (v := 2) hx hb dL_earth_23 (by decide) ?_
      exact hret Y hv dL_earth_24
  · refine lv_i2l hx hb dL_earth_12 rfl ?_
    refine z_stJ C Y (paw_8_0 ..) (saw_8_0 ..) z_in01 dL_earth_13 (fun H locs Y => ?_)
    refine lv_goto (tgt := 25) hx hb dL_earth_14 (by decide) ?_
    refine lv_iconst (v := 0) hx hb dL_earth_25 (by decide) ?_
    exact hret Y hv dL_earth_26

def TL_bring (Q1 : Int32 → (zSt × zSt × zSt × zSt × zSt × zSt × (Nat → Int64)) → Prop) (p1 : Int32) (p2 : Int32) (u0 : zSt) (u1 : zSt) (u2 : zSt) (u3 : zSt) (u4 : zSt) (u5 : zSt) (u8 : (Nat → Int64)) : Prop :=
  TX6_bring (fun (r_7 : Int32) (w_8 : zSt × zSt × zSt × zSt × zSt × zSt) => Q1 0 (w_8.1, w_8.2.1, w_8.2.2.1, w_8.2.2.2.1, w_8.2.2.2.2.1, w_8.2.2.2.2.2, (vp_updL u8 (0 : Int32).toNatClampNeg ((r_7 : Int32).toInt64)))) (fun (E : String) (w_8 : zSt × zSt × zSt × zSt × zSt × zSt) => (E = zIOB ∧ Q1 1 (w_8.1, w_8.2.1, w_8.2.2.1, w_8.2.2.2.1, w_8.2.2.2.2.1, w_8.2.2.2.2.2, u8)) ∨ (E = zIAE ∧ Q1 2 (w_8.1, w_8.2.1, w_8.2.2.1, w_8.2.2.2.1, w_8.2.2.2.2.1, w_8.2.2.2.2.2, u8))) p1 p2 u0 u1 u2 u3 u4 u5
set_option maxHeartbeats 4000000 in
set_option maxRecDepth 100000 in
theorem c_L_bring (l : Launch) (hlt : l.stackTraces = false) {D : va_G} {cI cZ cJ : ClassId} {a : Nat → Nat → Nat} {Q1 : Int32 → (zSt × zSt × zSt × zSt × zSt × zSt × (Nat → Int64)) → Prop} {p1 : Int32} {p2 : Int32} {u0 : zSt} {u1 : zSt} {u2 : zSt} {u3 : zSt} {u4 : zSt} {u5 : zSt} {u8 : Nat → Int64} (hv : TL_bring Q1 p1 p2 u0 u1 u2 u3 u4 u5 u8) : zWI l yL_bring wsL_bring ({ frames := 7, cells := 1, slots := 6, locals := 112 } : Room) D cI cZ cJ [.ref (a 6 99), .int p1, .int p2, .ref (a 8 0)] (kw a cI cZ cJ (u0, u1, u2, u3, u4, u5, u8)) (fun u : zSt × zSt × zSt × zSt × zSt × zSt × (Nat → Int64) => kw a cI cZ cJ u) Q1 := by
  unfold TL_bring at hv
  refine z_ofW (by decide) rfl rfl (Nat.le_of_ble_eq_true rfl) (@fun p e s m args below meth c A Q ls C Y hX htab hl hret => ?_)
  obtain ⟨hx, hb, hml, hown, hts, hK, hA⟩ := id C
  have hl : lv_has ls 5 [(0, .ref (a 6 99)), (1, .int p1), (2, .int p2), (3, .ref (a 8 0))] := hl
  refine lv_aload_n hx hb dL_bring_0 rfl (lv_at hl 3 rfl) ?_
  refine lv_iconst (v := 0) hx hb dL_bring_1 (by decide) ?_
  refine lv_aload_n hx hb dL_bring_2 rfl (lv_at hl 0 rfl) ?_
  refine lv_iload_n hx hb dL_bring_3 rfl (lv_at hl 1 rfl) ?_
  refine lv_iload_n hx hb dL_bring_4 rfl (lv_at hl 2 rfl) ?_
  refine z_callXi C Y hX (c_X6_bring l hlt hv) (frw_6 ..) (cwV 2 hts gL_bring_X6_bring rfl rfl rfl (by decide +kernel) ⟨Nat.le_of_ble_eq_true rfl, Nat.le_of_ble_eq_true rfl⟩) (ge6_6 ..) rfl rfl rfl hl.1 rfl (Nat.le_of_ble_eq_true rfl) dL_bring_5 ⟨Nat.le_of_ble_eq_true rfl, Nat.le_of_ble_eq_true rfl⟩ (fun E ce q9 ⟨u0_1, u1_2, u2_3, u3_4, u4_5, u5_6⟩ H locs Y hv hce hcv hcl => ?_) (fun r_7 ⟨u0_1, u1_2, u2_3, u3_4, u4_5, u5_6⟩ H locs Y hv => ?_)
  · rcases hv with ⟨rfl, hv⟩ | ⟨rfl, hv⟩
    · refine vx_catch (name := zIOB) hown [] ⟨0, 10, 13, 21⟩ [⟨0, 10, 17, 13⟩] (htab.trans rfl) (fun z hz => by cases hz) (by decide) (by decide) (hts (.classLink RL 21 zIOB) (by decide +kernel)) (zBw_use hX.2.2.2.1 (.castable zIOB zIOB) (by decide +kernel)) hce hcv hcl ?_
      refine lv_astore (lv' := [(4, .ref q9), (0, .ref (a 6 99)), (1, .int p1), (2, .int p2), (3, .ref (a 8 0))]) hx hb dL_bring_13 hl (by decide) rfl (fun ls hl => ?_)
      refine lv_iconst (v := 1) hx hb dL_bring_15 (by decide) ?_
      exact hret Y hv dL_bring_16
    · refine vx_catch (name := zIAE) hown [⟨0, 10, 13, 21⟩] ⟨0, 10, 17, 13⟩ [] (htab.trans rfl) (fun z hz => by cases List.mem_singleton.mp hz; exact Or.inr ⟨by decide, zIOB, hts (.classLink RL 21 zIOB) (by decide +kernel), hX.2.2.2.2 (zIAE, zIOB) (by decide +kernel)⟩) (by decide) (by decide) (hts (.classLink RL 13 zIAE) (by decide +kernel)) (zBw_use hX.2.2.2.1 (.castable zIAE zIAE) (by decide +kernel)) hce hcv hcl ?_
      refine lv_astore (lv' := [(4, .ref q9), (0, .ref (a 6 99)), (1, .int p1), (2, .int p2), (3, .ref (a 8 0))]) hx hb dL_bring_17 hl (by decide) rfl (fun ls hl => ?_)
      refine lv_iconst (v := 2) hx hb dL_bring_19 (by decide) ?_
      exact hret Y hv dL_bring_20
  · refine lv_i2l hx hb dL_bring_8 rfl ?_
    refine z_stJ C Y (paw_8_0 ..) (saw_8_0 ..) z_in01 dL_bring_9 (fun H locs Y => ?_)
    refine lv_goto (tgt := 21) hx hb dL_bring_10 (by decide) ?_
    refine lv_iconst (v := 0) hx hb dL_bring_21 (by decide) ?_
    exact hret Y hv dL_bring_22

def TL_blend (Q1 : Int32 → (zSt × zSt × zSt × zSt × zSt × zSt × (Nat → Int64)) → Prop) (p1 : Int32) (p2 : Int32) (u0 : zSt) (u1 : zSt) (u2 : zSt) (u3 : zSt) (u4 : zSt) (u5 : zSt) (u8 : (Nat → Int64)) : Prop :=
  TX6_blend (fun (r_7 : Int32) (w_8 : zSt × zSt × zSt × zSt × zSt × zSt) => Q1 0 (w_8.1, w_8.2.1, w_8.2.2.1, w_8.2.2.2.1, w_8.2.2.2.2.1, w_8.2.2.2.2.2, (vp_updL u8 (0 : Int32).toNatClampNeg ((r_7 : Int32).toInt64)))) (fun (E : String) (w_8 : zSt × zSt × zSt × zSt × zSt × zSt) => (E = zIAE ∧ Q1 1 (w_8.1, w_8.2.1, w_8.2.2.1, w_8.2.2.2.1, w_8.2.2.2.2.1, w_8.2.2.2.2.2, u8))) p1 p2 u0 u1 u2 u3 u4 u5
set_option maxHeartbeats 4000000 in
set_option maxRecDepth 100000 in
theorem c_L_blend (l : Launch) (hlt : l.stackTraces = false) {D : va_G} {cI cZ cJ : ClassId} {a : Nat → Nat → Nat} {Q1 : Int32 → (zSt × zSt × zSt × zSt × zSt × zSt × (Nat → Int64)) → Prop} {p1 : Int32} {p2 : Int32} {u0 : zSt} {u1 : zSt} {u2 : zSt} {u3 : zSt} {u4 : zSt} {u5 : zSt} {u8 : Nat → Int64} (hv : TL_blend Q1 p1 p2 u0 u1 u2 u3 u4 u5 u8) : zWI l yL_blend wsL_blend ({ frames := 21, cells := 1, slots := 6, locals := 609 } : Room) D cI cZ cJ [.ref (a 6 99), .int p1, .int p2, .ref (a 8 0)] (kw a cI cZ cJ (u0, u1, u2, u3, u4, u5, u8)) (fun u : zSt × zSt × zSt × zSt × zSt × zSt × (Nat → Int64) => kw a cI cZ cJ u) Q1 := by
  unfold TL_blend at hv
  refine z_ofW (by decide) rfl rfl (Nat.le_of_ble_eq_true rfl) (@fun p e s m args below meth c A Q ls C Y hX htab hl hret => ?_)
  obtain ⟨hx, hb, hml, hown, hts, hK, hA⟩ := id C
  have hl : lv_has ls 5 [(0, .ref (a 6 99)), (1, .int p1), (2, .int p2), (3, .ref (a 8 0))] := hl
  refine lv_aload_n hx hb dL_blend_0 rfl (lv_at hl 3 rfl) ?_
  refine lv_iconst (v := 0) hx hb dL_blend_1 (by decide) ?_
  refine lv_aload_n hx hb dL_blend_2 rfl (lv_at hl 0 rfl) ?_
  refine lv_iload_n hx hb dL_blend_3 rfl (lv_at hl 1 rfl) ?_
  refine lv_iload_n hx hb dL_blend_4 rfl (lv_at hl 2 rfl) ?_
  refine z_callXi C Y hX (c_X6_blend l hlt hv) (frw_6 ..) (cwV 2 hts gL_blend_X6_blend rfl rfl rfl (by decide +kernel) ⟨Nat.le_of_ble_eq_true rfl, Nat.le_of_ble_eq_true rfl⟩) (ge6_6 ..) rfl rfl rfl hl.1 rfl (Nat.le_of_ble_eq_true rfl) dL_blend_5 ⟨Nat.le_of_ble_eq_true rfl, Nat.le_of_ble_eq_true rfl⟩ (fun E ce q9 ⟨u0_1, u1_2, u2_3, u3_4, u4_5, u5_6⟩ H locs Y hv hce hcv hcl => ?_) (fun r_7 ⟨u0_1, u1_2, u2_3, u3_4, u4_5, u5_6⟩ H locs Y hv => ?_)
  · obtain ⟨rfl, hv⟩ := hv
    refine vx_catch (name := zIAE) hown [] ⟨0, 10, 13, 13⟩ [] (htab.trans rfl) (fun z hz => by cases hz) (by decide) (by decide) (hts (.classLink RL 13 zIAE) (by decide +kernel)) (zBw_use hX.2.2.2.1 (.castable zIAE zIAE) (by decide +kernel)) hce hcv hcl ?_
    refine lv_astore (lv' := [(4, .ref q9), (0, .ref (a 6 99)), (1, .int p1), (2, .int p2), (3, .ref (a 8 0))]) hx hb dL_blend_13 hl (by decide) rfl (fun ls hl => ?_)
    refine lv_iconst (v := 1) hx hb dL_blend_15 (by decide) ?_
    exact hret Y hv dL_blend_16
  · refine lv_i2l hx hb dL_blend_8 rfl ?_
    refine z_stJ C Y (paw_8_0 ..) (saw_8_0 ..) z_in01 dL_blend_9 (fun H locs Y => ?_)
    refine lv_goto (tgt := 17) hx hb dL_blend_10 (by decide) ?_
    refine lv_iconst (v := 0) hx hb dL_blend_17 (by decide) ?_
    exact hret Y hv dL_blend_18

def TL_parts (Q1 : Int32 → (zSt × zSt × zSt × zSt × zSt × zSt × (Nat → Int64)) → Prop) (p1 : Int32) (p2 : Int32) (p3 : Int32) (u0 : zSt) (u1 : zSt) (u2 : zSt) (u3 : zSt) (u4 : zSt) (u5 : zSt) (u8 : (Nat → Int64)) : Prop :=
  TX6_parts (fun (r_7 : Int32) (w_8 : zSt × zSt × zSt × zSt × zSt × zSt) => Q1 0 (w_8.1, w_8.2.1, w_8.2.2.1, w_8.2.2.2.1, w_8.2.2.2.2.1, w_8.2.2.2.2.2, (vp_updL u8 (0 : Int32).toNatClampNeg ((r_7 : Int32).toInt64)))) (fun (E : String) (w_8 : zSt × zSt × zSt × zSt × zSt × zSt) => (E = zIOB ∧ Q1 1 (w_8.1, w_8.2.1, w_8.2.2.1, w_8.2.2.2.1, w_8.2.2.2.2.1, w_8.2.2.2.2.2, u8)) ∨ (E = zIAE ∧ Q1 2 (w_8.1, w_8.2.1, w_8.2.2.1, w_8.2.2.2.1, w_8.2.2.2.2.1, w_8.2.2.2.2.2, u8))) p1 p2 p3 u0 u1 u2 u3 u4 u5
set_option maxHeartbeats 4000000 in
set_option maxRecDepth 100000 in
theorem c_L_parts (l : Launch) (hlt : l.stackTraces = false) {D : va_G} {cI cZ cJ : ClassId} {a : Nat → Nat → Nat} {Q1 : Int32 → (zSt × zSt × zSt × zSt × zSt × zSt × (Nat → Int64)) → Prop} {p1 : Int32} {p2 : Int32} {p3 : Int32} {u0 : zSt} {u1 : zSt} {u2 : zSt} {u3 : zSt} {u4 : zSt} {u5 : zSt} {u8 : Nat → Int64} (hv : TL_parts Q1 p1 p2 p3 u0 u1 u2 u3 u4 u5 u8) : zWI l yL_parts wsL_parts ({ frames := 21, cells := 1, slots := 6, locals := 610 } : Room) D cI cZ cJ [.ref (a 6 99), .int p1, .int p2, .int p3, .ref (a 8 0)] (kw a cI cZ cJ (u0, u1, u2, u3, u4, u5, u8)) (fun u : zSt × zSt × zSt × zSt × zSt × zSt × (Nat → Int64) => kw a cI cZ cJ u) Q1 := by
  unfold TL_parts at hv
  refine z_ofW (by decide) rfl rfl (Nat.le_of_ble_eq_true rfl) (@fun p e s m args below meth c A Q ls C Y hX htab hl hret => ?_)
  obtain ⟨hx, hb, hml, hown, hts, hK, hA⟩ := id C
  have hl : lv_has ls 6 [(0, .ref (a 6 99)), (1, .int p1), (2, .int p2), (3, .int p3), (4, .ref (a 8 0))] := hl
  refine lv_aload hx hb dL_parts_0 (lv_at hl 4 rfl) ?_
  refine lv_iconst (v := 0) hx hb dL_parts_2 (by decide) ?_
  refine lv_aload_n hx hb dL_parts_3 rfl (lv_at hl 0 rfl) ?_
  refine lv_iload_n hx hb dL_parts_4 rfl (lv_at hl 1 rfl) ?_
  refine lv_iload_n hx hb dL_parts_5 rfl (lv_at hl 2 rfl) ?_
  refine lv_iload_n hx hb dL_parts_6 rfl (lv_at hl 3 rfl) ?_
  refine z_callXi C Y hX (c_X6_parts l hlt hv) (frw_6 ..) (cwV 3 hts gL_parts_X6_parts rfl rfl rfl (by decide +kernel) ⟨Nat.le_of_ble_eq_true rfl, Nat.le_of_ble_eq_true rfl⟩) (ge6_6 ..) rfl rfl rfl hl.1 rfl (Nat.le_of_ble_eq_true rfl) dL_parts_7 ⟨Nat.le_of_ble_eq_true rfl, Nat.le_of_ble_eq_true rfl⟩ (fun E ce q9 ⟨u0_1, u1_2, u2_3, u3_4, u4_5, u5_6⟩ H locs Y hv hce hcv hcl => ?_) (fun r_7 ⟨u0_1, u1_2, u2_3, u3_4, u4_5, u5_6⟩ H locs Y hv => ?_)
  · rcases hv with ⟨rfl, hv⟩ | ⟨rfl, hv⟩
    · refine vx_catch (name := zIOB) hown [] ⟨0, 12, 15, 21⟩ [⟨0, 12, 19, 13⟩] (htab.trans rfl) (fun z hz => by cases hz) (by decide) (by decide) (hts (.classLink RL 21 zIOB) (by decide +kernel)) (zBw_use hX.2.2.2.1 (.castable zIOB zIOB) (by decide +kernel)) hce hcv hcl ?_
      refine lv_astore (lv' := [(5, .ref q9), (0, .ref (a 6 99)), (1, .int p1), (2, .int p2), (3, .int p3), (4, .ref (a 8 0))]) hx hb dL_parts_15 hl (by decide) rfl (fun ls hl => ?_)
      refine lv_iconst (v := 1) hx hb dL_parts_17 (by decide) ?_
      exact hret Y hv dL_parts_18
    · refine vx_catch (name := zIAE) hown [⟨0, 12, 15, 21⟩] ⟨0, 12, 19, 13⟩ [] (htab.trans rfl) (fun z hz => by cases List.mem_singleton.mp hz; exact Or.inr ⟨by decide, zIOB, hts (.classLink RL 21 zIOB) (by decide +kernel), hX.2.2.2.2 (zIAE, zIOB) (by decide +kernel)⟩) (by decide) (by decide) (hts (.classLink RL 13 zIAE) (by decide +kernel)) (zBw_use hX.2.2.2.1 (.castable zIAE zIAE) (by decide +kernel)) hce hcv hcl ?_
      refine lv_astore (lv' := [(5, .ref q9), (0, .ref (a 6 99)), (1, .int p1), (2, .int p2), (3, .int p3), (4, .ref (a 8 0))]) hx hb dL_parts_19 hl (by decide) rfl (fun ls hl => ?_)
      refine lv_iconst (v := 2) hx hb dL_parts_21 (by decide) ?_
      exact hret Y hv dL_parts_22
  · refine lv_i2l hx hb dL_parts_10 rfl ?_
    refine z_stJ C Y (paw_8_0 ..) (saw_8_0 ..) z_in01 dL_parts_11 (fun H locs Y => ?_)
    refine lv_goto (tgt := 23) hx hb dL_parts_12 (by decide) ?_
    refine lv_iconst (v := 0) hx hb dL_parts_23 (by decide) ?_
    exact hret Y hv dL_parts_24

def TL_cores (Q1 : Int32 → (zSt × zSt × zSt × zSt × zSt × zSt × (Nat → Int64)) → Prop) (p1 : Int32) (p2 : Int32) (u0 : zSt) (u1 : zSt) (u2 : zSt) (u3 : zSt) (u4 : zSt) (u5 : zSt) (u8 : (Nat → Int64)) : Prop :=
  TX6_cores (fun (r_7 : Int32) (w_8 : zSt × zSt × zSt × zSt × zSt × zSt) => Q1 0 (w_8.1, w_8.2.1, w_8.2.2.1, w_8.2.2.2.1, w_8.2.2.2.2.1, w_8.2.2.2.2.2, (vp_updL u8 (0 : Int32).toNatClampNeg ((r_7 : Int32).toInt64)))) (fun (E : String) (w_8 : zSt × zSt × zSt × zSt × zSt × zSt) => (E = zIAE ∧ Q1 1 (w_8.1, w_8.2.1, w_8.2.2.1, w_8.2.2.2.1, w_8.2.2.2.2.1, w_8.2.2.2.2.2, u8))) p1 p2 u0 u1 u2 u3 u4 u5
set_option maxHeartbeats 4000000 in
set_option maxRecDepth 100000 in
theorem c_L_cores (l : Launch) (hlt : l.stackTraces = false) {D : va_G} {cI cZ cJ : ClassId} {a : Nat → Nat → Nat} {Q1 : Int32 → (zSt × zSt × zSt × zSt × zSt × zSt × (Nat → Int64)) → Prop} {p1 : Int32} {p2 : Int32} {u0 : zSt} {u1 : zSt} {u2 : zSt} {u3 : zSt} {u4 : zSt} {u5 : zSt} {u8 : Nat → Int64} (hv : TL_cores Q1 p1 p2 u0 u1 u2 u3 u4 u5 u8) : zWI l yL_cores wsL_cores ({ frames := 21, cells := 1, slots := 6, locals := 609 } : Room) D cI cZ cJ [.ref (a 6 99), .int p1, .int p2, .ref (a 8 0)] (kw a cI cZ cJ (u0, u1, u2, u3, u4, u5, u8)) (fun u : zSt × zSt × zSt × zSt × zSt × zSt × (Nat → Int64) => kw a cI cZ cJ u) Q1 := by
  unfold TL_cores at hv
  refine z_ofW (by decide) rfl rfl (Nat.le_of_ble_eq_true rfl) (@fun p e s m args below meth c A Q ls C Y hX htab hl hret => ?_)
  obtain ⟨hx, hb, hml, hown, hts, hK, hA⟩ := id C
  have hl : lv_has ls 5 [(0, .ref (a 6 99)), (1, .int p1), (2, .int p2), (3, .ref (a 8 0))] := hl
  refine lv_aload_n hx hb dL_cores_0 rfl (lv_at hl 3 rfl) ?_
  refine lv_iconst (v := 0) hx hb dL_cores_1 (by decide) ?_
  refine lv_aload_n hx hb dL_cores_2 rfl (lv_at hl 0 rfl) ?_
  refine lv_iload_n hx hb dL_cores_3 rfl (lv_at hl 1 rfl) ?_
  refine lv_iload_n hx hb dL_cores_4 rfl (lv_at hl 2 rfl) ?_
  refine z_callXi C Y hX (c_X6_cores l hlt hv) (frw_6 ..) (cwV 2 hts gL_cores_X6_cores rfl rfl rfl (by decide +kernel) ⟨Nat.le_of_ble_eq_true rfl, Nat.le_of_ble_eq_true rfl⟩) (ge6_6 ..) rfl rfl rfl hl.1 rfl (Nat.le_of_ble_eq_true rfl) dL_cores_5 ⟨Nat.le_of_ble_eq_true rfl, Nat.le_of_ble_eq_true rfl⟩ (fun E ce q9 ⟨u0_1, u1_2, u2_3, u3_4, u4_5, u5_6⟩ H locs Y hv hce hcv hcl => ?_) (fun r_7 ⟨u0_1, u1_2, u2_3, u3_4, u4_5, u5_6⟩ H locs Y hv => ?_)
  · obtain ⟨rfl, hv⟩ := hv
    refine vx_catch (name := zIAE) hown [] ⟨0, 10, 13, 13⟩ [] (htab.trans rfl) (fun z hz => by cases hz) (by decide) (by decide) (hts (.classLink RL 13 zIAE) (by decide +kernel)) (zBw_use hX.2.2.2.1 (.castable zIAE zIAE) (by decide +kernel)) hce hcv hcl ?_
    refine lv_astore (lv' := [(4, .ref q9), (0, .ref (a 6 99)), (1, .int p1), (2, .int p2), (3, .ref (a 8 0))]) hx hb dL_cores_13 hl (by decide) rfl (fun ls hl => ?_)
    refine lv_iconst (v := 1) hx hb dL_cores_15 (by decide) ?_
    exact hret Y hv dL_cores_16
  · refine lv_i2l hx hb dL_cores_8 rfl ?_
    refine z_stJ C Y (paw_8_0 ..) (saw_8_0 ..) z_in01 dL_cores_9 (fun H locs Y => ?_)
    refine lv_goto (tgt := 17) hx hb dL_cores_10 (by decide) ?_
    refine lv_iconst (v := 0) hx hb dL_cores_17 (by decide) ?_
    exact hret Y hv dL_cores_18

def TL_lot (Q1 : Int32 → (zSt × zSt × zSt × zSt × zSt × zSt × (Nat → Int64)) → Prop) (p1 : Int32) (p2 : Int32) (u0 : zSt) (u1 : zSt) (u2 : zSt) (u3 : zSt) (u4 : zSt) (u5 : zSt) (u8 : (Nat → Int64)) : Prop :=
  TX6_lot (fun (r_7 : Int32) (w_8 : zSt × zSt × zSt × zSt × zSt × zSt) => Q1 0 (w_8.1, w_8.2.1, w_8.2.2.1, w_8.2.2.2.1, w_8.2.2.2.2.1, w_8.2.2.2.2.2, (vp_updL u8 (0 : Int32).toNatClampNeg ((r_7 : Int32).toInt64)))) (fun (E : String) (w_8 : zSt × zSt × zSt × zSt × zSt × zSt) => (E = zIAE ∧ Q1 1 (w_8.1, w_8.2.1, w_8.2.2.1, w_8.2.2.2.1, w_8.2.2.2.2.1, w_8.2.2.2.2.2, u8)) ∨ (E = zUOE ∧ Q1 2 (w_8.1, w_8.2.1, w_8.2.2.1, w_8.2.2.2.1, w_8.2.2.2.2.1, w_8.2.2.2.2.2, u8))) p1 p2 u0 u1 u2 u3 u4 u5
set_option maxHeartbeats 4000000 in
set_option maxRecDepth 100000 in
theorem c_L_lot (l : Launch) (hlt : l.stackTraces = false) {D : va_G} {cI cZ cJ : ClassId} {a : Nat → Nat → Nat} {Q1 : Int32 → (zSt × zSt × zSt × zSt × zSt × zSt × (Nat → Int64)) → Prop} {p1 : Int32} {p2 : Int32} {u0 : zSt} {u1 : zSt} {u2 : zSt} {u3 : zSt} {u4 : zSt} {u5 : zSt} {u8 : Nat → Int64} (hv : TL_lot Q1 p1 p2 u0 u1 u2 u3 u4 u5 u8) : zWI l yL_lot wsL_lot ({ frames := 7, cells := 1, slots := 6, locals := 112 } : Room) D cI cZ cJ [.ref (a 6 99), .int p1, .int p2, .ref (a 8 0)] (kw a cI cZ cJ (u0, u1, u2, u3, u4, u5, u8)) (fun u : zSt × zSt × zSt × zSt × zSt × zSt × (Nat → Int64) => kw a cI cZ cJ u) Q1 := by
  unfold TL_lot at hv
  refine z_ofW (by decide) rfl rfl (Nat.le_of_ble_eq_true rfl) (@fun p e s m args below meth c A Q ls C Y hX htab hl hret => ?_)
  obtain ⟨hx, hb, hml, hown, hts, hK, hA⟩ := id C
  have hl : lv_has ls 5 [(0, .ref (a 6 99)), (1, .int p1), (2, .int p2), (3, .ref (a 8 0))] := hl
  refine lv_aload_n hx hb dL_lot_0 rfl (lv_at hl 3 rfl) ?_
  refine lv_iconst (v := 0) hx hb dL_lot_1 (by decide) ?_
  refine lv_aload_n hx hb dL_lot_2 rfl (lv_at hl 0 rfl) ?_
  refine lv_iload_n hx hb dL_lot_3 rfl (lv_at hl 1 rfl) ?_
  refine lv_iload_n hx hb dL_lot_4 rfl (lv_at hl 2 rfl) ?_
  refine z_callXi C Y hX (c_X6_lot l hlt hv) (frw_6 ..) (cwV 2 hts gL_lot_X6_lot rfl rfl rfl (by decide +kernel) ⟨Nat.le_of_ble_eq_true rfl, Nat.le_of_ble_eq_true rfl⟩) (ge6_6 ..) rfl rfl rfl hl.1 rfl (Nat.le_of_ble_eq_true rfl) dL_lot_5 ⟨Nat.le_of_ble_eq_true rfl, Nat.le_of_ble_eq_true rfl⟩ (fun E ce q9 ⟨u0_1, u1_2, u2_3, u3_4, u4_5, u5_6⟩ H locs Y hv hce hcv hcl => ?_) (fun r_7 ⟨u0_1, u1_2, u2_3, u3_4, u4_5, u5_6⟩ H locs Y hv => ?_)
  · rcases hv with ⟨rfl, hv⟩ | ⟨rfl, hv⟩
    · refine vx_catch (name := zIAE) hown [] ⟨0, 10, 13, 13⟩ [⟨0, 10, 17, 15⟩] (htab.trans rfl) (fun z hz => by cases hz) (by decide) (by decide) (hts (.classLink RL 13 zIAE) (by decide +kernel)) (zBw_use hX.2.2.2.1 (.castable zIAE zIAE) (by decide +kernel)) hce hcv hcl ?_
      refine lv_astore (lv' := [(4, .ref q9), (0, .ref (a 6 99)), (1, .int p1), (2, .int p2), (3, .ref (a 8 0))]) hx hb dL_lot_13 hl (by decide) rfl (fun ls hl => ?_)
      refine lv_iconst (v := 1) hx hb dL_lot_15 (by decide) ?_
      exact hret Y hv dL_lot_16
    · refine vx_catch (name := zUOE) hown [⟨0, 10, 13, 13⟩] ⟨0, 10, 17, 15⟩ [] (htab.trans rfl) (fun z hz => by cases List.mem_singleton.mp hz; exact Or.inr ⟨by decide, zIAE, hts (.classLink RL 13 zIAE) (by decide +kernel), hX.2.2.2.2 (zUOE, zIAE) (by decide +kernel)⟩) (by decide) (by decide) (hts (.classLink RL 15 zUOE) (by decide +kernel)) (zBw_use hX.2.2.2.1 (.castable zUOE zUOE) (by decide +kernel)) hce hcv hcl ?_
      refine lv_astore (lv' := [(4, .ref q9), (0, .ref (a 6 99)), (1, .int p1), (2, .int p2), (3, .ref (a 8 0))]) hx hb dL_lot_17 hl (by decide) rfl (fun ls hl => ?_)
      refine lv_iconst (v := 2) hx hb dL_lot_19 (by decide) ?_
      exact hret Y hv dL_lot_20
  · refine lv_i2l hx hb dL_lot_8 rfl ?_
    refine z_stJ C Y (paw_8_0 ..) (saw_8_0 ..) z_in01 dL_lot_9 (fun H locs Y => ?_)
    refine lv_goto (tgt := 21) hx hb dL_lot_10 (by decide) ?_
    refine lv_iconst (v := 0) hx hb dL_lot_21 (by decide) ?_
    exact hret Y hv dL_lot_22

def TL_make (Q1 : Int32 → (zSt × zSt × zSt × zSt × zSt × zSt × (Nat → Int64)) → Prop) (p1 : Int32) (p2 : Int32) (p3 : Int32) (p4 : Int32) (u0 : zSt) (u1 : zSt) (u2 : zSt) (u3 : zSt) (u4 : zSt) (u5 : zSt) (u8 : (Nat → Int64)) : Prop :=
  TX6_make (fun (r_7 : Int32) (w_8 : zSt × zSt × zSt × zSt × zSt × zSt) => Q1 0 (w_8.1, w_8.2.1, w_8.2.2.1, w_8.2.2.2.1, w_8.2.2.2.2.1, w_8.2.2.2.2.2, (vp_updL u8 (0 : Int32).toNatClampNeg ((r_7 : Int32).toInt64)))) (fun (E : String) (w_8 : zSt × zSt × zSt × zSt × zSt × zSt) => (E = zIOB ∧ Q1 1 (w_8.1, w_8.2.1, w_8.2.2.1, w_8.2.2.2.1, w_8.2.2.2.2.1, w_8.2.2.2.2.2, u8)) ∨ (E = zIAE ∧ Q1 2 (w_8.1, w_8.2.1, w_8.2.2.1, w_8.2.2.2.1, w_8.2.2.2.2.1, w_8.2.2.2.2.2, u8))) p1 p2 p3 p4 u0 u1 u2 u3 u4 u5
set_option maxHeartbeats 4000000 in
set_option maxRecDepth 100000 in
theorem c_L_make (l : Launch) (hlt : l.stackTraces = false) {D : va_G} {cI cZ cJ : ClassId} {a : Nat → Nat → Nat} {Q1 : Int32 → (zSt × zSt × zSt × zSt × zSt × zSt × (Nat → Int64)) → Prop} {p1 : Int32} {p2 : Int32} {p3 : Int32} {p4 : Int32} {u0 : zSt} {u1 : zSt} {u2 : zSt} {u3 : zSt} {u4 : zSt} {u5 : zSt} {u8 : Nat → Int64} (hv : TL_make Q1 p1 p2 p3 p4 u0 u1 u2 u3 u4 u5 u8) : zWI l yL_make wsL_make ({ frames := 7, cells := 1, slots := 6, locals := 114 } : Room) D cI cZ cJ [.ref (a 6 99), .int p1, .int p2, .int p3, .int p4, .ref (a 8 0)] (kw a cI cZ cJ (u0, u1, u2, u3, u4, u5, u8)) (fun u : zSt × zSt × zSt × zSt × zSt × zSt × (Nat → Int64) => kw a cI cZ cJ u) Q1 := by
  unfold TL_make at hv
  refine z_ofW (by decide) rfl rfl (Nat.le_of_ble_eq_true rfl) (@fun p e s m args below meth c A Q ls C Y hX htab hl hret => ?_)
  obtain ⟨hx, hb, hml, hown, hts, hK, hA⟩ := id C
  have hl : lv_has ls 7 [(0, .ref (a 6 99)), (1, .int p1), (2, .int p2), (3, .int p3), (4, .int p4), (5, .ref (a 8 0))] := hl
  refine lv_aload hx hb dL_make_0 (lv_at hl 5 rfl) ?_
  refine lv_iconst (v := 0) hx hb dL_make_2 (by decide) ?_
  refine lv_aload_n hx hb dL_make_3 rfl (lv_at hl 0 rfl) ?_
  refine lv_iload_n hx hb dL_make_4 rfl (lv_at hl 1 rfl) ?_
  refine lv_iload_n hx hb dL_make_5 rfl (lv_at hl 2 rfl) ?_
  refine lv_iload_n hx hb dL_make_6 rfl (lv_at hl 3 rfl) ?_
  refine lv_iload hx hb dL_make_7 (lv_at hl 4 rfl) ?_
  refine z_callXi C Y hX (c_X6_make l hlt hv) (frw_6 ..) (cwV 4 hts gL_make_X6_make rfl rfl rfl (by decide +kernel) ⟨Nat.le_of_ble_eq_true rfl, Nat.le_of_ble_eq_true rfl⟩) (ge6_6 ..) rfl rfl rfl hl.1 rfl (Nat.le_of_ble_eq_true rfl) dL_make_9 ⟨Nat.le_of_ble_eq_true rfl, Nat.le_of_ble_eq_true rfl⟩ (fun E ce q9 ⟨u0_1, u1_2, u2_3, u3_4, u4_5, u5_6⟩ H locs Y hv hce hcv hcl => ?_) (fun r_7 ⟨u0_1, u1_2, u2_3, u3_4, u4_5, u5_6⟩ H locs Y hv => ?_)
  · rcases hv with ⟨rfl, hv⟩ | ⟨rfl, hv⟩
    · refine vx_catch (name := zIOB) hown [] ⟨0, 14, 17, 21⟩ [⟨0, 14, 21, 13⟩] (htab.trans rfl) (fun z hz => by cases hz) (by decide) (by decide) (hts (.classLink RL 21 zIOB) (by decide +kernel)) (zBw_use hX.2.2.2.1 (.castable zIOB zIOB) (by decide +kernel)) hce hcv hcl ?_
      refine lv_astore (lv' := [(6, .ref q9), (0, .ref (a 6 99)), (1, .int p1), (2, .int p2), (3, .int p3), (4, .int p4), (5, .ref (a 8 0))]) hx hb dL_make_17 hl (by decide) rfl (fun ls hl => ?_)
      refine lv_iconst (v := 1) hx hb dL_make_19 (by decide) ?_
      exact hret Y hv dL_make_20
    · refine vx_catch (name := zIAE) hown [⟨0, 14, 17, 21⟩] ⟨0, 14, 21, 13⟩ [] (htab.trans rfl) (fun z hz => by cases List.mem_singleton.mp hz; exact Or.inr ⟨by decide, zIOB, hts (.classLink RL 21 zIOB) (by decide +kernel), hX.2.2.2.2 (zIAE, zIOB) (by decide +kernel)⟩) (by decide) (by decide) (hts (.classLink RL 13 zIAE) (by decide +kernel)) (zBw_use hX.2.2.2.1 (.castable zIAE zIAE) (by decide +kernel)) hce hcv hcl ?_
      refine lv_astore (lv' := [(6, .ref q9), (0, .ref (a 6 99)), (1, .int p1), (2, .int p2), (3, .int p3), (4, .int p4), (5, .ref (a 8 0))]) hx hb dL_make_21 hl (by decide) rfl (fun ls hl => ?_)
      refine lv_iconst (v := 2) hx hb dL_make_23 (by decide) ?_
      exact hret Y hv dL_make_24
  · refine lv_i2l hx hb dL_make_12 rfl ?_
    refine z_stJ C Y (paw_8_0 ..) (saw_8_0 ..) z_in01 dL_make_13 (fun H locs Y => ?_)
    refine lv_goto (tgt := 25) hx hb dL_make_14 (by decide) ?_
    refine lv_iconst (v := 0) hx hb dL_make_25 (by decide) ?_
    exact hret Y hv dL_make_26

def TL_look (Q1 : Int32 → (zSt × zSt × zSt × zSt × zSt × zSt × (Nat → Int64)) → Prop) (p1 : Int32) (p2 : Int32) (u0 : zSt) (u1 : zSt) (u2 : zSt) (u3 : zSt) (u4 : zSt) (u5 : zSt) (u8 : (Nat → Int64)) : Prop :=
  TX6_look (fun (r_7 : Int32) (w_8 : zSt × zSt × zSt × zSt × zSt × zSt) => Q1 0 (w_8.1, w_8.2.1, w_8.2.2.1, w_8.2.2.2.1, w_8.2.2.2.2.1, w_8.2.2.2.2.2, (vp_updL u8 (0 : Int32).toNatClampNeg ((r_7 : Int32).toInt64)))) (fun (E : String) (w_8 : zSt × zSt × zSt × zSt × zSt × zSt) => (E = zIOB ∧ Q1 1 (w_8.1, w_8.2.1, w_8.2.2.1, w_8.2.2.2.1, w_8.2.2.2.2.1, w_8.2.2.2.2.2, u8)) ∨ (E = zNSE ∧ Q1 2 (w_8.1, w_8.2.1, w_8.2.2.1, w_8.2.2.2.1, w_8.2.2.2.2.1, w_8.2.2.2.2.2, u8))) p1 p2 u0 u1 u2 u3 u4 u5
set_option maxHeartbeats 4000000 in
set_option maxRecDepth 100000 in
theorem c_L_look (l : Launch) (hlt : l.stackTraces = false) {D : va_G} {cI cZ cJ : ClassId} {a : Nat → Nat → Nat} {Q1 : Int32 → (zSt × zSt × zSt × zSt × zSt × zSt × (Nat → Int64)) → Prop} {p1 : Int32} {p2 : Int32} {u0 : zSt} {u1 : zSt} {u2 : zSt} {u3 : zSt} {u4 : zSt} {u5 : zSt} {u8 : Nat → Int64} (hv : TL_look Q1 p1 p2 u0 u1 u2 u3 u4 u5 u8) : zWI l yL_look wsL_look ({ frames := 7, cells := 1, slots := 6, locals := 112 } : Room) D cI cZ cJ [.ref (a 6 99), .int p1, .int p2, .ref (a 8 0)] (kw a cI cZ cJ (u0, u1, u2, u3, u4, u5, u8)) (fun u : zSt × zSt × zSt × zSt × zSt × zSt × (Nat → Int64) => kw a cI cZ cJ u) Q1 := by
  unfold TL_look at hv
  refine z_ofW (by decide) rfl rfl (Nat.le_of_ble_eq_true rfl) (@fun p e s m args below meth c A Q ls C Y hX htab hl hret => ?_)
  obtain ⟨hx, hb, hml, hown, hts, hK, hA⟩ := id C
  have hl : lv_has ls 5 [(0, .ref (a 6 99)), (1, .int p1), (2, .int p2), (3, .ref (a 8 0))] := hl
  refine lv_aload_n hx hb dL_look_0 rfl (lv_at hl 3 rfl) ?_
  refine lv_iconst (v := 0) hx hb dL_look_1 (by decide) ?_
  refine lv_aload_n hx hb dL_look_2 rfl (lv_at hl 0 rfl) ?_
  refine lv_iload_n hx hb dL_look_3 rfl (lv_at hl 1 rfl) ?_
  refine lv_iload_n hx hb dL_look_4 rfl (lv_at hl 2 rfl) ?_
  refine z_callXi C Y hX (c_X6_look l hlt hv) (frw_6 ..) (cwV 2 hts gL_look_X6_look rfl rfl rfl (by decide +kernel) ⟨Nat.le_of_ble_eq_true rfl, Nat.le_of_ble_eq_true rfl⟩) (ge6_6 ..) rfl rfl rfl hl.1 rfl (Nat.le_of_ble_eq_true rfl) dL_look_5 ⟨Nat.le_of_ble_eq_true rfl, Nat.le_of_ble_eq_true rfl⟩ (fun E ce q9 ⟨u0_1, u1_2, u2_3, u3_4, u4_5, u5_6⟩ H locs Y hv hce hcv hcl => ?_) (fun r_7 ⟨u0_1, u1_2, u2_3, u3_4, u4_5, u5_6⟩ H locs Y hv => ?_)
  · rcases hv with ⟨rfl, hv⟩ | ⟨rfl, hv⟩
    · refine vx_catch (name := zIOB) hown [] ⟨0, 10, 13, 21⟩ [⟨0, 10, 17, 42⟩] (htab.trans rfl) (fun z hz => by cases hz) (by decide) (by decide) (hts (.classLink RL 21 zIOB) (by decide +kernel)) (zBw_use hX.2.2.2.1 (.castable zIOB zIOB) (by decide +kernel)) hce hcv hcl ?_
      refine lv_astore (lv' := [(4, .ref q9), (0, .ref (a 6 99)), (1, .int p1), (2, .int p2), (3, .ref (a 8 0))]) hx hb dL_look_13 hl (by decide) rfl (fun ls hl => ?_)
      refine lv_iconst (v := 1) hx hb dL_look_15 (by decide) ?_
      exact hret Y hv dL_look_16
    · refine vx_catch (name := zNSE) hown [⟨0, 10, 13, 21⟩] ⟨0, 10, 17, 42⟩ [] (htab.trans rfl) (fun z hz => by cases List.mem_singleton.mp hz; exact Or.inr ⟨by decide, zIOB, hts (.classLink RL 21 zIOB) (by decide +kernel), hX.2.2.2.2 (zNSE, zIOB) (by decide +kernel)⟩) (by decide) (by decide) (hts (.classLink RL 42 zNSE) (by decide +kernel)) (zBw_use hX.2.2.2.1 (.castable zNSE zNSE) (by decide +kernel)) hce hcv hcl ?_
      refine lv_astore (lv' := [(4, .ref q9), (0, .ref (a 6 99)), (1, .int p1), (2, .int p2), (3, .ref (a 8 0))]) hx hb dL_look_17 hl (by decide) rfl (fun ls hl => ?_)
      refine lv_iconst (v := 2) hx hb dL_look_19 (by decide) ?_
      exact hret Y hv dL_look_20
  · refine lv_i2l hx hb dL_look_8 rfl ?_
    refine z_stJ C Y (paw_8_0 ..) (saw_8_0 ..) z_in01 dL_look_9 (fun H locs Y => ?_)
    refine lv_goto (tgt := 21) hx hb dL_look_10 (by decide) ?_
    refine lv_iconst (v := 0) hx hb dL_look_21 (by decide) ?_
    exact hret Y hv dL_look_22

def TL_trial (Q1 : Int32 → (zSt × zSt × zSt × zSt × zSt × zSt × (Nat → Int64)) → Prop) (p1 : Int32) (p2 : Int32) (u0 : zSt) (u1 : zSt) (u2 : zSt) (u3 : zSt) (u4 : zSt) (u5 : zSt) (u8 : (Nat → Int64)) : Prop :=
  TX6_trial (fun (r_7 : Int32) (w_8 : zSt × zSt × zSt × zSt × zSt × zSt) => Q1 0 (w_8.1, w_8.2.1, w_8.2.2.1, w_8.2.2.2.1, w_8.2.2.2.2.1, w_8.2.2.2.2.2, (vp_updL u8 (0 : Int32).toNatClampNeg ((r_7 : Int32).toInt64)))) (fun (E : String) (w_8 : zSt × zSt × zSt × zSt × zSt × zSt) => (E = zIOB ∧ Q1 1 (w_8.1, w_8.2.1, w_8.2.2.1, w_8.2.2.2.1, w_8.2.2.2.2.1, w_8.2.2.2.2.2, u8))) p1 p2 u0 u1 u2 u3 u4 u5
set_option maxHeartbeats 4000000 in
set_option maxRecDepth 100000 in
theorem c_L_trial (l : Launch) (hlt : l.stackTraces = false) {D : va_G} {cI cZ cJ : ClassId} {a : Nat → Nat → Nat} {Q1 : Int32 → (zSt × zSt × zSt × zSt × zSt × zSt × (Nat → Int64)) → Prop} {p1 : Int32} {p2 : Int32} {u0 : zSt} {u1 : zSt} {u2 : zSt} {u3 : zSt} {u4 : zSt} {u5 : zSt} {u8 : Nat → Int64} (hv : TL_trial Q1 p1 p2 u0 u1 u2 u3 u4 u5 u8) : zWI l yL_trial wsL_trial ({ frames := 7, cells := 1, slots := 6, locals := 112 } : Room) D cI cZ cJ [.ref (a 6 99), .int p1, .int p2, .ref (a 8 0)] (kw a cI cZ cJ (u0, u1, u2, u3, u4, u5, u8)) (fun u : zSt × zSt × zSt × zSt × zSt × zSt × (Nat → Int64) => kw a cI cZ cJ u) Q1 := by
  unfold TL_trial at hv
  refine z_ofW (by decide) rfl rfl (Nat.le_of_ble_eq_true rfl) (@fun p e s m args below meth c A Q ls C Y hX htab hl hret => ?_)
  obtain ⟨hx, hb, hml, hown, hts, hK, hA⟩ := id C
  have hl : lv_has ls 5 [(0, .ref (a 6 99)), (1, .int p1), (2, .int p2), (3, .ref (a 8 0))] := hl
  refine lv_aload_n hx hb dL_trial_0 rfl (lv_at hl 3 rfl) ?_
  refine lv_iconst (v := 0) hx hb dL_trial_1 (by decide) ?_
  refine lv_aload_n hx hb dL_trial_2 rfl (lv_at hl 0 rfl) ?_
  refine lv_iload_n hx hb dL_trial_3 rfl (lv_at hl 1 rfl) ?_
  refine lv_iload_n hx hb dL_trial_4 rfl (lv_at hl 2 rfl) ?_
  refine z_callXi C Y hX (c_X6_trial l hlt hv) (frw_6 ..) (cwV 2 hts gL_trial_X6_trial rfl rfl rfl (by decide +kernel) ⟨Nat.le_of_ble_eq_true rfl, Nat.le_of_ble_eq_true rfl⟩) (ge6_6 ..) rfl rfl rfl hl.1 rfl (Nat.le_of_ble_eq_true rfl) dL_trial_5 ⟨Nat.le_of_ble_eq_true rfl, Nat.le_of_ble_eq_true rfl⟩ (fun E ce q9 ⟨u0_1, u1_2, u2_3, u3_4, u4_5, u5_6⟩ H locs Y hv hce hcv hcl => ?_) (fun r_7 ⟨u0_1, u1_2, u2_3, u3_4, u4_5, u5_6⟩ H locs Y hv => ?_)
  · obtain ⟨rfl, hv⟩ := hv
    refine vx_catch (name := zIOB) hown [] ⟨0, 10, 13, 21⟩ [] (htab.trans rfl) (fun z hz => by cases hz) (by decide) (by decide) (hts (.classLink RL 21 zIOB) (by decide +kernel)) (zBw_use hX.2.2.2.1 (.castable zIOB zIOB) (by decide +kernel)) hce hcv hcl ?_
    refine lv_astore (lv' := [(4, .ref q9), (0, .ref (a 6 99)), (1, .int p1), (2, .int p2), (3, .ref (a 8 0))]) hx hb dL_trial_13 hl (by decide) rfl (fun ls hl => ?_)
    refine lv_iconst (v := 1) hx hb dL_trial_15 (by decide) ?_
    exact hret Y hv dL_trial_16
  · refine lv_i2l hx hb dL_trial_8 rfl ?_
    refine z_stJ C Y (paw_8_0 ..) (saw_8_0 ..) z_in01 dL_trial_9 (fun H locs Y => ?_)
    refine lv_goto (tgt := 17) hx hb dL_trial_10 (by decide) ?_
    refine lv_iconst (v := 0) hx hb dL_trial_17 (by decide) ?_
    exact hret Y hv dL_trial_18

def TL_undo (Q1 : Int32 → (zSt × zSt × zSt × zSt × zSt × zSt × (Nat → Int64)) → Prop) (p1 : Int32) (u0 : zSt) (u1 : zSt) (u2 : zSt) (u3 : zSt) (u4 : zSt) (u5 : zSt) (u8 : (Nat → Int64)) : Prop :=
  TX6_undo (fun (r_7 : Int32) (w_8 : zSt × zSt × zSt × zSt × zSt × zSt) => (r_7 = (0 : Int32) → Q1 0 (w_8.1, w_8.2.1, w_8.2.2.1, w_8.2.2.2.1, w_8.2.2.2.2.1, w_8.2.2.2.2.2, (vp_updL u8 (0 : Int32).toNatClampNeg (0 : Int64)))) ∧ (¬ r_7 = (0 : Int32) → Q1 0 (w_8.1, w_8.2.1, w_8.2.2.1, w_8.2.2.2.1, w_8.2.2.2.2.1, w_8.2.2.2.2.2, (vp_updL u8 (0 : Int32).toNatClampNeg (1 : Int64))))) (fun (E : String) (w_8 : zSt × zSt × zSt × zSt × zSt × zSt) => (E = zIOB ∧ Q1 1 (w_8.1, w_8.2.1, w_8.2.2.1, w_8.2.2.2.1, w_8.2.2.2.2.1, w_8.2.2.2.2.2, u8))) p1 u0 u1 u2 u3 u4 u5
set_option maxHeartbeats 4000000 in
set_option maxRecDepth 100000 in
theorem c_L_undo (l : Launch) (hlt : l.stackTraces = false) {D : va_G} {cI cZ cJ : ClassId} {a : Nat → Nat → Nat} {Q1 : Int32 → (zSt × zSt × zSt × zSt × zSt × zSt × (Nat → Int64)) → Prop} {p1 : Int32} {u0 : zSt} {u1 : zSt} {u2 : zSt} {u3 : zSt} {u4 : zSt} {u5 : zSt} {u8 : Nat → Int64} (hv : TL_undo Q1 p1 u0 u1 u2 u3 u4 u5 u8) : zWI l yL_undo wsL_undo ({ frames := 7, cells := 1, slots := 6, locals := 111 } : Room) D cI cZ cJ [.ref (a 6 99), .int p1, .ref (a 8 0)] (kw a cI cZ cJ (u0, u1, u2, u3, u4, u5, u8)) (fun u : zSt × zSt × zSt × zSt × zSt × zSt × (Nat → Int64) => kw a cI cZ cJ u) Q1 := by
  unfold TL_undo at hv
  refine z_ofW (by decide) rfl rfl (Nat.le_of_ble_eq_true rfl) (@fun p e s m args below meth c A Q ls C Y hX htab hl hret => ?_)
  obtain ⟨hx, hb, hml, hown, hts, hK, hA⟩ := id C
  have hl : lv_has ls 4 [(0, .ref (a 6 99)), (1, .int p1), (2, .ref (a 8 0))] := hl
  refine lv_aload_n hx hb dL_undo_0 rfl (lv_at hl 2 rfl) ?_
  refine lv_iconst (v := 0) hx hb dL_undo_1 (by decide) ?_
  refine lv_aload_n hx hb dL_undo_2 rfl (lv_at hl 0 rfl) ?_
  refine lv_iload_n hx hb dL_undo_3 rfl (lv_at hl 1 rfl) ?_
  refine z_callXi C Y hX (c_X6_undo l hlt hv) (frw_6 ..) (cwV 1 hts gL_undo_X6_undo rfl rfl rfl (by decide +kernel) ⟨Nat.le_of_ble_eq_true rfl, Nat.le_of_ble_eq_true rfl⟩) (ge6_6 ..) rfl rfl rfl hl.1 rfl (Nat.le_of_ble_eq_true rfl) dL_undo_4 ⟨Nat.le_of_ble_eq_true rfl, Nat.le_of_ble_eq_true rfl⟩ (fun E ce q9 ⟨u0_1, u1_2, u2_3, u3_4, u4_5, u5_6⟩ H locs Y hv hce hcv hcl => ?_) (fun r_7 ⟨u0_1, u1_2, u2_3, u3_4, u4_5, u5_6⟩ H locs Y hv => ?_)
  · obtain ⟨rfl, hv⟩ := hv
    refine vx_catch (name := zIOB) hown [] ⟨0, 16, 19, 21⟩ [] (htab.trans rfl) (fun z hz => by cases hz) (by decide) (by decide) (hts (.classLink RL 21 zIOB) (by decide +kernel)) (zBw_use hX.2.2.2.1 (.castable zIOB zIOB) (by decide +kernel)) hce hcv hcl ?_
    refine lv_astore_n (lv' := [(3, .ref q9), (0, .ref (a 6 99)), (1, .int p1), (2, .ref (a 8 0))]) hx hb dL_undo_19 rfl hl (by decide) rfl (fun ls hl => ?_)
    refine lv_iconst (v := 1) hx hb dL_undo_20 (by decide) ?_
    exact hret Y hv dL_undo_21
  · refine lv_if_eq (tgt := 14) hx hb dL_undo_7 (by decide) (fun hc => ?_) (fun hc => ?_)
    · have hv := hv.1 hc
      refine lv_lconst (v := 0) hx hb dL_undo_14 (by decide) ?_
      refine z_stJ C Y (paw_8_0 ..) (saw_8_0 ..) z_in01 dL_undo_15 (fun H locs Y => ?_)
      refine lv_goto (tgt := 22) hx hb dL_undo_16 (by decide) ?_
      refine lv_iconst (v := 0) hx hb dL_undo_22 (by decide) ?_
      exact hret Y hv dL_undo_23
    · have hv := hv.2 hc
      refine lv_lconst (v := 1) hx hb dL_undo_10 (by decide) ?_
      refine lv_goto (tgt := 15) hx hb dL_undo_11 (by decide) ?_
      refine z_stJ C Y (paw_8_0 ..) (saw_8_0 ..) z_in01 dL_undo_15 (fun H locs Y => ?_)
      refine lv_goto (tgt := 22) hx hb dL_undo_16 (by decide) ?_
      refine lv_iconst (v := 0) hx hb dL_undo_22 (by decide) ?_
      exact hret Y hv dL_undo_23

def TL_days (Q1 : Int32 → (zSt × zSt × zSt × zSt × zSt × zSt × (Nat → Int64)) → Prop) (p1 : Int32) (u0 : zSt) (u1 : zSt) (u2 : zSt) (u3 : zSt) (u4 : zSt) (u5 : zSt) (u8 : (Nat → Int64)) : Prop :=
  TX6_days (fun (r_7 : Int32) (w_8 : zSt × zSt × zSt × zSt × zSt × zSt) => Q1 0 (w_8.1, w_8.2.1, w_8.2.2.1, w_8.2.2.2.1, w_8.2.2.2.2.1, w_8.2.2.2.2.2, (vp_updL u8 (0 : Int32).toNatClampNeg ((r_7 : Int32).toInt64)))) (fun (E : String) (w_8 : zSt × zSt × zSt × zSt × zSt × zSt) => (E = zIAE ∧ Q1 1 (w_8.1, w_8.2.1, w_8.2.2.1, w_8.2.2.2.1, w_8.2.2.2.2.1, w_8.2.2.2.2.2, u8))) p1 u0 u1 u2 u3 u4 u5
set_option maxHeartbeats 4000000 in
set_option maxRecDepth 100000 in
theorem c_L_days (l : Launch) (hlt : l.stackTraces = false) {D : va_G} {cI cZ cJ : ClassId} {a : Nat → Nat → Nat} {Q1 : Int32 → (zSt × zSt × zSt × zSt × zSt × zSt × (Nat → Int64)) → Prop} {p1 : Int32} {u0 : zSt} {u1 : zSt} {u2 : zSt} {u3 : zSt} {u4 : zSt} {u5 : zSt} {u8 : Nat → Int64} (hv : TL_days Q1 p1 u0 u1 u2 u3 u4 u5 u8) : zWI l yL_days wsL_days ({ frames := 7, cells := 1, slots := 6, locals := 111 } : Room) D cI cZ cJ [.ref (a 6 99), .int p1, .ref (a 8 0)] (kw a cI cZ cJ (u0, u1, u2, u3, u4, u5, u8)) (fun u : zSt × zSt × zSt × zSt × zSt × zSt × (Nat → Int64) => kw a cI cZ cJ u) Q1 := by
  unfold TL_days at hv
  refine z_ofW (by decide) rfl rfl (Nat.le_of_ble_eq_true rfl) (@fun p e s m args below meth c A Q ls C Y hX htab hl hret => ?_)
  obtain ⟨hx, hb, hml, hown, hts, hK, hA⟩ := id C
  have hl : lv_has ls 4 [(0, .ref (a 6 99)), (1, .int p1), (2, .ref (a 8 0))] := hl
  refine lv_aload_n hx hb dL_days_0 rfl (lv_at hl 2 rfl) ?_
  refine lv_iconst (v := 0) hx hb dL_days_1 (by decide) ?_
  refine lv_aload_n hx hb dL_days_2 rfl (lv_at hl 0 rfl) ?_
  refine lv_iload_n hx hb dL_days_3 rfl (lv_at hl 1 rfl) ?_
  refine z_callXi C Y hX (c_X6_days l hlt hv) (frw_6 ..) (cwV 1 hts gL_days_X6_days rfl rfl rfl (by decide +kernel) ⟨Nat.le_of_ble_eq_true rfl, Nat.le_of_ble_eq_true rfl⟩) (ge6_6 ..) rfl rfl rfl hl.1 rfl (Nat.le_of_ble_eq_true rfl) dL_days_4 ⟨Nat.le_of_ble_eq_true rfl, Nat.le_of_ble_eq_true rfl⟩ (fun E ce q9 ⟨u0_1, u1_2, u2_3, u3_4, u4_5, u5_6⟩ H locs Y hv hce hcv hcl => ?_) (fun r_7 ⟨u0_1, u1_2, u2_3, u3_4, u4_5, u5_6⟩ H locs Y hv => ?_)
  · obtain ⟨rfl, hv⟩ := hv
    refine vx_catch (name := zIAE) hown [] ⟨0, 9, 12, 13⟩ [] (htab.trans rfl) (fun z hz => by cases hz) (by decide) (by decide) (hts (.classLink RL 13 zIAE) (by decide +kernel)) (zBw_use hX.2.2.2.1 (.castable zIAE zIAE) (by decide +kernel)) hce hcv hcl ?_
    refine lv_astore_n (lv' := [(3, .ref q9), (0, .ref (a 6 99)), (1, .int p1), (2, .ref (a 8 0))]) hx hb dL_days_12 rfl hl (by decide) rfl (fun ls hl => ?_)
    refine lv_iconst (v := 1) hx hb dL_days_13 (by decide) ?_
    exact hret Y hv dL_days_14
  · refine lv_i2l hx hb dL_days_7 rfl ?_
    refine z_stJ C Y (paw_8_0 ..) (saw_8_0 ..) z_in01 dL_days_8 (fun H locs Y => ?_)
    refine lv_goto (tgt := 15) hx hb dL_days_9 (by decide) ?_
    refine lv_iconst (v := 0) hx hb dL_days_15 (by decide) ?_
    exact hret Y hv dL_days_16

def TL_explain (Q1 : Int32 → (zSt × zSt × zSt × zSt × zSt × zSt × (Nat → Int64)) → Prop) (p1 : Int32) (p2 : Int32) (u0 : zSt) (u1 : zSt) (u2 : zSt) (u3 : zSt) (u4 : zSt) (u5 : zSt) (u8 : (Nat → Int64)) : Prop :=
  TX6_explain (fun (r_7 : Int32) (w_8 : zSt × zSt × zSt × zSt × zSt × zSt) => Q1 0 (w_8.1, w_8.2.1, w_8.2.2.1, w_8.2.2.2.1, w_8.2.2.2.2.1, w_8.2.2.2.2.2, (vp_updL u8 (0 : Int32).toNatClampNeg ((r_7 : Int32).toInt64)))) (fun (E : String) (w_8 : zSt × zSt × zSt × zSt × zSt × zSt) => (E = zNSE ∧ Q1 1 (w_8.1, w_8.2.1, w_8.2.2.1, w_8.2.2.2.1, w_8.2.2.2.2.1, w_8.2.2.2.2.2, u8))) p1 p2 u0 u1 u2 u3 u4 u5
set_option maxHeartbeats 4000000 in
set_option maxRecDepth 100000 in
theorem c_L_explain (l : Launch) (hlt : l.stackTraces = false) {D : va_G} {cI cZ cJ : ClassId} {a : Nat → Nat → Nat} {Q1 : Int32 → (zSt × zSt × zSt × zSt × zSt × zSt × (Nat → Int64)) → Prop} {p1 : Int32} {p2 : Int32} {u0 : zSt} {u1 : zSt} {u2 : zSt} {u3 : zSt} {u4 : zSt} {u5 : zSt} {u8 : Nat → Int64} (hv : TL_explain Q1 p1 p2 u0 u1 u2 u3 u4 u5 u8) : zWI l yL_explain wsL_explain ({ frames := 33, cells := 1, slots := 6, locals := 971 } : Room) D cI cZ cJ [.ref (a 6 99), .int p1, .int p2, .ref (a 8 0)] (kw a cI cZ cJ (u0, u1, u2, u3, u4, u5, u8)) (fun u : zSt × zSt × zSt × zSt × zSt × zSt × (Nat → Int64) => kw a cI cZ cJ u) Q1 := by
  unfold TL_explain at hv
  refine z_ofW (by decide) rfl rfl (Nat.le_of_ble_eq_true rfl) (@fun p e s m args below meth c A Q ls C Y hX htab hl hret => ?_)
  obtain ⟨hx, hb, hml, hown, hts, hK, hA⟩ := id C
  have hl : lv_has ls 5 [(0, .ref (a 6 99)), (1, .int p1), (2, .int p2), (3, .ref (a 8 0))] := hl
  refine lv_aload_n hx hb dL_explain_0 rfl (lv_at hl 3 rfl) ?_
  refine lv_iconst (v := 0) hx hb dL_explain_1 (by decide) ?_
  refine lv_aload_n hx hb dL_explain_2 rfl (lv_at hl 0 rfl) ?_
  refine lv_iload_n hx hb dL_explain_3 rfl (lv_at hl 1 rfl) ?_
  refine lv_iload_n hx hb dL_explain_4 rfl (lv_at hl 2 rfl) ?_
  refine z_callXi C Y hX (c_X6_explain l hlt hv) (frw_6 ..) (cwV 2 hts gL_explain_X6_explain rfl rfl rfl (by decide +kernel) ⟨Nat.le_of_ble_eq_true rfl, Nat.le_of_ble_eq_true rfl⟩) (ge6_6 ..) rfl rfl rfl hl.1 rfl (Nat.le_of_ble_eq_true rfl) dL_explain_5 ⟨Nat.le_of_ble_eq_true rfl, Nat.le_of_ble_eq_true rfl⟩ (fun E ce q9 ⟨u0_1, u1_2, u2_3, u3_4, u4_5, u5_6⟩ H locs Y hv hce hcv hcl => ?_) (fun r_7 ⟨u0_1, u1_2, u2_3, u3_4, u4_5, u5_6⟩ H locs Y hv => ?_)
  · obtain ⟨rfl, hv⟩ := hv
    refine vx_catch (name := zNSE) hown [] ⟨0, 10, 13, 42⟩ [] (htab.trans rfl) (fun z hz => by cases hz) (by decide) (by decide) (hts (.classLink RL 42 zNSE) (by decide +kernel)) (zBw_use hX.2.2.2.1 (.castable zNSE zNSE) (by decide +kernel)) hce hcv hcl ?_
    refine lv_astore (lv' := [(4, .ref q9), (0, .ref (a 6 99)), (1, .int p1), (2, .int p2), (3, .ref (a 8 0))]) hx hb dL_explain_13 hl (by decide) rfl (fun ls hl => ?_)
    refine lv_iconst (v := 1) hx hb dL_explain_15 (by decide) ?_
    exact hret Y hv dL_explain_16
  · refine lv_i2l hx hb dL_explain_8 rfl ?_
    refine z_stJ C Y (paw_8_0 ..) (saw_8_0 ..) z_in01 dL_explain_9 (fun H locs Y => ?_)
    refine lv_goto (tgt := 17) hx hb dL_explain_10 (by decide) ?_
    refine lv_iconst (v := 0) hx hb dL_explain_17 (by decide) ?_
    exact hret Y hv dL_explain_18

def TL_slats (Q1 : Int32 → (zSt × zSt × zSt × zSt × zSt × zSt × (Nat → Int64)) → Prop) (p1 : Int32) (p2 : Int32) (u0 : zSt) (u1 : zSt) (u2 : zSt) (u3 : zSt) (u4 : zSt) (u5 : zSt) (u8 : (Nat → Int64)) : Prop :=
  TX6_slats (fun (r_7 : Int32) (w_8 : zSt × zSt × zSt × zSt × zSt × zSt) => Q1 0 (w_8.1, w_8.2.1, w_8.2.2.1, w_8.2.2.2.1, w_8.2.2.2.2.1, w_8.2.2.2.2.2, (vp_updL u8 (0 : Int32).toNatClampNeg ((r_7 : Int32).toInt64)))) (fun (E : String) (w_8 : zSt × zSt × zSt × zSt × zSt × zSt) => (E = zIAE ∧ Q1 1 (w_8.1, w_8.2.1, w_8.2.2.1, w_8.2.2.2.1, w_8.2.2.2.2.1, w_8.2.2.2.2.2, u8))) p1 p2 u0 u1 u2 u3 u4 u5
set_option maxHeartbeats 4000000 in
set_option maxRecDepth 100000 in
theorem c_L_slats (l : Launch) (hlt : l.stackTraces = false) {D : va_G} {cI cZ cJ : ClassId} {a : Nat → Nat → Nat} {Q1 : Int32 → (zSt × zSt × zSt × zSt × zSt × zSt × (Nat → Int64)) → Prop} {p1 : Int32} {p2 : Int32} {u0 : zSt} {u1 : zSt} {u2 : zSt} {u3 : zSt} {u4 : zSt} {u5 : zSt} {u8 : Nat → Int64} (hv : TL_slats Q1 p1 p2 u0 u1 u2 u3 u4 u5 u8) : zWI l yL_slats wsL_slats ({ frames := 7, cells := 1, slots := 6, locals := 112 } : Room) D cI cZ cJ [.ref (a 6 99), .int p1, .int p2, .ref (a 8 0)] (kw a cI cZ cJ (u0, u1, u2, u3, u4, u5, u8)) (fun u : zSt × zSt × zSt × zSt × zSt × zSt × (Nat → Int64) => kw a cI cZ cJ u) Q1 := by
  unfold TL_slats at hv
  refine z_ofW (by decide) rfl rfl (Nat.le_of_ble_eq_true rfl) (@fun p e s m args below meth c A Q ls C Y hX htab hl hret => ?_)
  obtain ⟨hx, hb, hml, hown, hts, hK, hA⟩ := id C
  have hl : lv_has ls 5 [(0, .ref (a 6 99)), (1, .int p1), (2, .int p2), (3, .ref (a 8 0))] := hl
  refine lv_aload_n hx hb dL_slats_0 rfl (lv_at hl 3 rfl) ?_
  refine lv_iconst (v := 0) hx hb dL_slats_1 (by decide) ?_
  refine lv_aload_n hx hb dL_slats_2 rfl (lv_at hl 0 rfl) ?_
  refine lv_iload_n hx hb dL_slats_3 rfl (lv_at hl 1 rfl) ?_
  refine lv_iload_n hx hb dL_slats_4 rfl (lv_at hl 2 rfl) ?_
  refine z_callXi C Y hX (c_X6_slats l hlt hv) (frw_6 ..) (cwV 2 hts gL_slats_X6_slats rfl rfl rfl (by decide +kernel) ⟨Nat.le_of_ble_eq_true rfl, Nat.le_of_ble_eq_true rfl⟩) (ge6_6 ..) rfl rfl rfl hl.1 rfl (Nat.le_of_ble_eq_true rfl) dL_slats_5 ⟨Nat.le_of_ble_eq_true rfl, Nat.le_of_ble_eq_true rfl⟩ (fun E ce q9 ⟨u0_1, u1_2, u2_3, u3_4, u4_5, u5_6⟩ H locs Y hv hce hcv hcl => ?_) (fun r_7 ⟨u0_1, u1_2, u2_3, u3_4, u4_5, u5_6⟩ H locs Y hv => ?_)
  · obtain ⟨rfl, hv⟩ := hv
    refine vx_catch (name := zIAE) hown [] ⟨0, 10, 13, 13⟩ [] (htab.trans rfl) (fun z hz => by cases hz) (by decide) (by decide) (hts (.classLink RL 13 zIAE) (by decide +kernel)) (zBw_use hX.2.2.2.1 (.castable zIAE zIAE) (by decide +kernel)) hce hcv hcl ?_
    refine lv_astore (lv' := [(4, .ref q9), (0, .ref (a 6 99)), (1, .int p1), (2, .int p2), (3, .ref (a 8 0))]) hx hb dL_slats_13 hl (by decide) rfl (fun ls hl => ?_)
    refine lv_iconst (v := 1) hx hb dL_slats_15 (by decide) ?_
    exact hret Y hv dL_slats_16
  · refine lv_i2l hx hb dL_slats_8 rfl ?_
    refine z_stJ C Y (paw_8_0 ..) (saw_8_0 ..) z_in01 dL_slats_9 (fun H locs Y => ?_)
    refine lv_goto (tgt := 17) hx hb dL_slats_10 (by decide) ?_
    refine lv_iconst (v := 0) hx hb dL_slats_17 (by decide) ?_
    exact hret Y hv dL_slats_18

def TL_grade (Q1 : Int32 → (zSt × zSt × zSt × zSt × zSt × zSt × (Nat → Int64)) → Prop) (p1 : Int32) (p2 : Int32) (p3 : Int32) (u0 : zSt) (u1 : zSt) (u2 : zSt) (u3 : zSt) (u4 : zSt) (u5 : zSt) (u8 : (Nat → Int64)) : Prop :=
  TX6_grade (fun (r_7 : Int32) (w_8 : zSt × zSt × zSt × zSt × zSt × zSt) => Q1 0 (w_8.1, w_8.2.1, w_8.2.2.1, w_8.2.2.2.1, w_8.2.2.2.2.1, w_8.2.2.2.2.2, (vp_updL u8 (0 : Int32).toNatClampNeg ((r_7 : Int32).toInt64)))) (fun (E : String) (w_8 : zSt × zSt × zSt × zSt × zSt × zSt) => (E = zIAE ∧ Q1 1 (w_8.1, w_8.2.1, w_8.2.2.1, w_8.2.2.2.1, w_8.2.2.2.2.1, w_8.2.2.2.2.2, u8))) p1 p2 p3 u0 u1 u2 u3 u4 u5
set_option maxHeartbeats 4000000 in
set_option maxRecDepth 100000 in
theorem c_L_grade (l : Launch) (hlt : l.stackTraces = false) {D : va_G} {cI cZ cJ : ClassId} {a : Nat → Nat → Nat} {Q1 : Int32 → (zSt × zSt × zSt × zSt × zSt × zSt × (Nat → Int64)) → Prop} {p1 : Int32} {p2 : Int32} {p3 : Int32} {u0 : zSt} {u1 : zSt} {u2 : zSt} {u3 : zSt} {u4 : zSt} {u5 : zSt} {u8 : Nat → Int64} (hv : TL_grade Q1 p1 p2 p3 u0 u1 u2 u3 u4 u5 u8) : zWI l yL_grade wsL_grade ({ frames := 7, cells := 1, slots := 6, locals := 113 } : Room) D cI cZ cJ [.ref (a 6 99), .int p1, .int p2, .int p3, .ref (a 8 0)] (kw a cI cZ cJ (u0, u1, u2, u3, u4, u5, u8)) (fun u : zSt × zSt × zSt × zSt × zSt × zSt × (Nat → Int64) => kw a cI cZ cJ u) Q1 := by
  unfold TL_grade at hv
  refine z_ofW (by decide) rfl rfl (Nat.le_of_ble_eq_true rfl) (@fun p e s m args below meth c A Q ls C Y hX htab hl hret => ?_)
  obtain ⟨hx, hb, hml, hown, hts, hK, hA⟩ := id C
  have hl : lv_has ls 6 [(0, .ref (a 6 99)), (1, .int p1), (2, .int p2), (3, .int p3), (4, .ref (a 8 0))] := hl
  refine lv_aload hx hb dL_grade_0 (lv_at hl 4 rfl) ?_
  refine lv_iconst (v := 0) hx hb dL_grade_2 (by decide) ?_
  refine lv_aload_n hx hb dL_grade_3 rfl (lv_at hl 0 rfl) ?_
  refine lv_iload_n hx hb dL_grade_4 rfl (lv_at hl 1 rfl) ?_
  refine lv_iload_n hx hb dL_grade_5 rfl (lv_at hl 2 rfl) ?_
  refine lv_iload_n hx hb dL_grade_6 rfl (lv_at hl 3 rfl) ?_
  refine z_callXi C Y hX (c_X6_grade l hlt hv) (frw_6 ..) (cwV 3 hts gL_grade_X6_grade rfl rfl rfl (by decide +kernel) ⟨Nat.le_of_ble_eq_true rfl, Nat.le_of_ble_eq_true rfl⟩) (ge6_6 ..) rfl rfl rfl hl.1 rfl (Nat.le_of_ble_eq_true rfl) dL_grade_7 ⟨Nat.le_of_ble_eq_true rfl, Nat.le_of_ble_eq_true rfl⟩ (fun E ce q9 ⟨u0_1, u1_2, u2_3, u3_4, u4_5, u5_6⟩ H locs Y hv hce hcv hcl => ?_) (fun r_7 ⟨u0_1, u1_2, u2_3, u3_4, u4_5, u5_6⟩ H locs Y hv => ?_)
  · obtain ⟨rfl, hv⟩ := hv
    refine vx_catch (name := zIAE) hown [] ⟨0, 12, 15, 13⟩ [] (htab.trans rfl) (fun z hz => by cases hz) (by decide) (by decide) (hts (.classLink RL 13 zIAE) (by decide +kernel)) (zBw_use hX.2.2.2.1 (.castable zIAE zIAE) (by decide +kernel)) hce hcv hcl ?_
    refine lv_astore (lv' := [(5, .ref q9), (0, .ref (a 6 99)), (1, .int p1), (2, .int p2), (3, .int p3), (4, .ref (a 8 0))]) hx hb dL_grade_15 hl (by decide) rfl (fun ls hl => ?_)
    refine lv_iconst (v := 1) hx hb dL_grade_17 (by decide) ?_
    exact hret Y hv dL_grade_18
  · refine lv_i2l hx hb dL_grade_10 rfl ?_
    refine z_stJ C Y (paw_8_0 ..) (saw_8_0 ..) z_in01 dL_grade_11 (fun H locs Y => ?_)
    refine lv_goto (tgt := 19) hx hb dL_grade_12 (by decide) ?_
    refine lv_iconst (v := 0) hx hb dL_grade_19 (by decide) ?_
    exact hret Y hv dL_grade_20

def TL_change (Q1 : Int32 → (zSt × zSt × zSt × zSt × zSt × zSt × (Nat → Int64)) → Prop) (p1 : Int32) (p2 : Int32) (p3 : Int32) (u0 : zSt) (u1 : zSt) (u2 : zSt) (u3 : zSt) (u4 : zSt) (u5 : zSt) (u8 : (Nat → Int64)) : Prop :=
  TX6_change (fun (w_8 : zSt × zSt × zSt × zSt × zSt × zSt) => Q1 0 (w_8.1, w_8.2.1, w_8.2.2.1, w_8.2.2.2.1, w_8.2.2.2.2.1, w_8.2.2.2.2.2, u8)) (fun (E : String) (w_8 : zSt × zSt × zSt × zSt × zSt × zSt) => (E = zIOB ∧ Q1 1 (w_8.1, w_8.2.1, w_8.2.2.1, w_8.2.2.2.1, w_8.2.2.2.2.1, w_8.2.2.2.2.2, u8)) ∨ (E = zIAE ∧ Q1 2 (w_8.1, w_8.2.1, w_8.2.2.1, w_8.2.2.2.1, w_8.2.2.2.2.1, w_8.2.2.2.2.2, u8))) p1 p2 p3 u0 u1 u2 u3 u4 u5
set_option maxHeartbeats 4000000 in
set_option maxRecDepth 100000 in
theorem c_L_change (l : Launch) (hlt : l.stackTraces = false) {D : va_G} {cI cZ cJ : ClassId} {a : Nat → Nat → Nat} {Q1 : Int32 → (zSt × zSt × zSt × zSt × zSt × zSt × (Nat → Int64)) → Prop} {p1 : Int32} {p2 : Int32} {p3 : Int32} {u0 : zSt} {u1 : zSt} {u2 : zSt} {u3 : zSt} {u4 : zSt} {u5 : zSt} {u8 : Nat → Int64} (hv : TL_change Q1 p1 p2 p3 u0 u1 u2 u3 u4 u5 u8) : zWI l yL_change wsL_change ({ frames := 7, cells := 1, slots := 6, locals := 113 } : Room) D cI cZ cJ [.ref (a 6 99), .int p1, .int p2, .int p3] (kw a cI cZ cJ (u0, u1, u2, u3, u4, u5, u8)) (fun u : zSt × zSt × zSt × zSt × zSt × zSt × (Nat → Int64) => kw a cI cZ cJ u) Q1 := by
  unfold TL_change at hv
  refine z_ofW (by decide) rfl rfl (Nat.le_of_ble_eq_true rfl) (@fun p e s m args below meth c A Q ls C Y hX htab hl hret => ?_)
  obtain ⟨hx, hb, hml, hown, hts, hK, hA⟩ := id C
  have hl : lv_has ls 5 [(0, .ref (a 6 99)), (1, .int p1), (2, .int p2), (3, .int p3)] := hl
  refine lv_aload_n hx hb dL_change_0 rfl (lv_at hl 0 rfl) ?_
  refine lv_iload_n hx hb dL_change_1 rfl (lv_at hl 1 rfl) ?_
  refine lv_iload_n hx hb dL_change_2 rfl (lv_at hl 2 rfl) ?_
  refine lv_iload_n hx hb dL_change_3 rfl (lv_at hl 3 rfl) ?_
  refine z_callXv C Y hX (c_X6_change l hlt hv) (frw_6 ..) (cwV 3 hts gL_change_X6_change rfl rfl rfl (by decide +kernel) ⟨Nat.le_of_ble_eq_true rfl, Nat.le_of_ble_eq_true rfl⟩) (ge6_6 ..) rfl rfl rfl hl.1 rfl (Nat.le_of_ble_eq_true rfl) dL_change_4 ⟨Nat.le_of_ble_eq_true rfl, Nat.le_of_ble_eq_true rfl⟩ (fun E ce q9 ⟨u0_1, u1_2, u2_3, u3_4, u4_5, u5_6⟩ H locs Y hv hce hcv hcl => ?_) (fun ⟨u0_1, u1_2, u2_3, u3_4, u4_5, u5_6⟩ H locs Y hv => ?_)
  · rcases hv with ⟨rfl, hv⟩ | ⟨rfl, hv⟩
    · refine vx_catch (name := zIOB) hown [] ⟨0, 7, 10, 21⟩ [⟨0, 7, 14, 13⟩] (htab.trans rfl) (fun z hz => by cases hz) (by decide) (by decide) (hts (.classLink RL 21 zIOB) (by decide +kernel)) (zBw_use hX.2.2.2.1 (.castable zIOB zIOB) (by decide +kernel)) hce hcv hcl ?_
      refine lv_astore (lv' := [(4, .ref q9), (0, .ref (a 6 99)), (1, .int p1), (2, .int p2), (3, .int p3)]) hx hb dL_change_10 hl (by decide) rfl (fun ls hl => ?_)
      refine lv_iconst (v := 1) hx hb dL_change_12 (by decide) ?_
      exact hret Y hv dL_change_13
    · refine vx_catch (name := zIAE) hown [⟨0, 7, 10, 21⟩] ⟨0, 7, 14, 13⟩ [] (htab.trans rfl) (fun z hz => by cases List.mem_singleton.mp hz; exact Or.inr ⟨by decide, zIOB, hts (.classLink RL 21 zIOB) (by decide +kernel), hX.2.2.2.2 (zIAE, zIOB) (by decide +kernel)⟩) (by decide) (by decide) (hts (.classLink RL 13 zIAE) (by decide +kernel)) (zBw_use hX.2.2.2.1 (.castable zIAE zIAE) (by decide +kernel)) hce hcv hcl ?_
      refine lv_astore (lv' := [(4, .ref q9), (0, .ref (a 6 99)), (1, .int p1), (2, .int p2), (3, .int p3)]) hx hb dL_change_14 hl (by decide) rfl (fun ls hl => ?_)
      refine lv_iconst (v := 2) hx hb dL_change_16 (by decide) ?_
      exact hret Y hv dL_change_17
  · refine lv_goto (tgt := 18) hx hb dL_change_7 (by decide) ?_
    refine lv_iconst (v := 0) hx hb dL_change_18 (by decide) ?_
    exact hret Y hv dL_change_19

def TL_job (Q1 : Int32 → (zSt × zSt × zSt × zSt × zSt × zSt × (Nat → Int64)) → Prop) (p1 : Int32) (u0 : zSt) (u1 : zSt) (u2 : zSt) (u3 : zSt) (u4 : zSt) (u5 : zSt) (u8 : (Nat → Int64)) : Prop :=
  TX6_job (fun (r_7 : Int32) (w_8 : zSt × zSt × zSt × zSt × zSt × zSt) => Q1 0 (w_8.1, w_8.2.1, w_8.2.2.1, w_8.2.2.2.1, w_8.2.2.2.2.1, w_8.2.2.2.2.2, (vp_updL u8 (0 : Int32).toNatClampNeg ((r_7 : Int32).toInt64)))) (fun (E : String) (w_8 : zSt × zSt × zSt × zSt × zSt × zSt) => (E = zIOB ∧ Q1 1 (w_8.1, w_8.2.1, w_8.2.2.1, w_8.2.2.2.1, w_8.2.2.2.2.1, w_8.2.2.2.2.2, u8))) p1 u0 u1 u2 u3 u4 u5
set_option maxHeartbeats 4000000 in
set_option maxRecDepth 100000 in
theorem c_L_job (l : Launch) (hlt : l.stackTraces = false) {D : va_G} {cI cZ cJ : ClassId} {a : Nat → Nat → Nat} {Q1 : Int32 → (zSt × zSt × zSt × zSt × zSt × zSt × (Nat → Int64)) → Prop} {p1 : Int32} {u0 : zSt} {u1 : zSt} {u2 : zSt} {u3 : zSt} {u4 : zSt} {u5 : zSt} {u8 : Nat → Int64} (hv : TL_job Q1 p1 u0 u1 u2 u3 u4 u5 u8) : zWI l yL_job wsL_job ({ frames := 7, cells := 1, slots := 6, locals := 111 } : Room) D cI cZ cJ [.ref (a 6 99), .int p1, .ref (a 8 0)] (kw a cI cZ cJ (u0, u1, u2, u3, u4, u5, u8)) (fun u : zSt × zSt × zSt × zSt × zSt × zSt × (Nat → Int64) => kw a cI cZ cJ u) Q1 := by
  unfold TL_job at hv
  refine z_ofW (by decide) rfl rfl (Nat.le_of_ble_eq_true rfl) (@fun p e s m args below meth c A Q ls C Y hX htab hl hret => ?_)
  obtain ⟨hx, hb, hml, hown, hts, hK, hA⟩ := id C
  have hl : lv_has ls 4 [(0, .ref (a 6 99)), (1, .int p1), (2, .ref (a 8 0))] := hl
  refine lv_aload_n hx hb dL_job_0 rfl (lv_at hl 2 rfl) ?_
  refine lv_iconst (v := 0) hx hb dL_job_1 (by decide) ?_
  refine lv_aload_n hx hb dL_job_2 rfl (lv_at hl 0 rfl) ?_
  refine lv_iload_n hx hb dL_job_3 rfl (lv_at hl 1 rfl) ?_
  refine z_callXi C Y hX (c_X6_job l hlt hv) (frw_6 ..) (cwV 1 hts gL_job_X6_job rfl rfl rfl (by decide +kernel) ⟨Nat.le_of_ble_eq_true rfl, Nat.le_of_ble_eq_true rfl⟩) (ge6_6 ..) rfl rfl rfl hl.1 rfl (Nat.le_of_ble_eq_true rfl) dL_job_4 ⟨Nat.le_of_ble_eq_true rfl, Nat.le_of_ble_eq_true rfl⟩ (fun E ce q9 ⟨u0_1, u1_2, u2_3, u3_4, u4_5, u5_6⟩ H locs Y hv hce hcv hcl => ?_) (fun r_7 ⟨u0_1, u1_2, u2_3, u3_4, u4_5, u5_6⟩ H locs Y hv => ?_)
  · obtain ⟨rfl, hv⟩ := hv
    refine vx_catch (name := zIOB) hown [] ⟨0, 9, 12, 21⟩ [] (htab.trans rfl) (fun z hz => by cases hz) (by decide) (by decide) (hts (.classLink RL 21 zIOB) (by decide +kernel)) (zBw_use hX.2.2.2.1 (.castable zIOB zIOB) (by decide +kernel)) hce hcv hcl ?_
    refine lv_astore_n (lv' := [(3, .ref q9), (0, .ref (a 6 99)), (1, .int p1), (2, .ref (a 8 0))]) hx hb dL_job_12 rfl hl (by decide) rfl (fun ls hl => ?_)
    refine lv_iconst (v := 1) hx hb dL_job_13 (by decide) ?_
    exact hret Y hv dL_job_14
  · refine lv_i2l hx hb dL_job_7 rfl ?_
    refine z_stJ C Y (paw_8_0 ..) (saw_8_0 ..) z_in01 dL_job_8 (fun H locs Y => ?_)
    refine lv_goto (tgt := 15) hx hb dL_job_9 (by decide) ?_
    refine lv_iconst (v := 0) hx hb dL_job_15 (by decide) ?_
    exact hret Y hv dL_job_16

def TL_on (Q1 : Int32 → (zSt × zSt × zSt × zSt × zSt × zSt × (Nat → Int64)) → Prop) (p1 : Int32) (u0 : zSt) (u1 : zSt) (u2 : zSt) (u3 : zSt) (u4 : zSt) (u5 : zSt) (u8 : (Nat → Int64)) : Prop :=
  TX6_on (fun (w_8 : zSt × zSt × zSt × zSt × zSt × zSt) => Q1 0 (w_8.1, w_8.2.1, w_8.2.2.1, w_8.2.2.2.1, w_8.2.2.2.2.1, w_8.2.2.2.2.2, u8)) (fun (E : String) (w_8 : zSt × zSt × zSt × zSt × zSt × zSt) => (E = zIOB ∧ Q1 1 (w_8.1, w_8.2.1, w_8.2.2.1, w_8.2.2.2.1, w_8.2.2.2.2.1, w_8.2.2.2.2.2, u8))) p1 u0 u1 u2 u3 u4 u5
set_option maxHeartbeats 4000000 in
set_option maxRecDepth 100000 in
theorem c_L_on (l : Launch) (hlt : l.stackTraces = false) {D : va_G} {cI cZ cJ : ClassId} {a : Nat → Nat → Nat} {Q1 : Int32 → (zSt × zSt × zSt × zSt × zSt × zSt × (Nat → Int64)) → Prop} {p1 : Int32} {u0 : zSt} {u1 : zSt} {u2 : zSt} {u3 : zSt} {u4 : zSt} {u5 : zSt} {u8 : Nat → Int64} (hv : TL_on Q1 p1 u0 u1 u2 u3 u4 u5 u8) : zWI l yL_on wsL_on ({ frames := 7, cells := 1, slots := 6, locals := 111 } : Room) D cI cZ cJ [.ref (a 6 99), .int p1] (kw a cI cZ cJ (u0, u1, u2, u3, u4, u5, u8)) (fun u : zSt × zSt × zSt × zSt × zSt × zSt × (Nat → Int64) => kw a cI cZ cJ u) Q1 := by
  unfold TL_on at hv
  refine z_ofW (by decide) rfl rfl (Nat.le_of_ble_eq_true rfl) (@fun p e s m args below meth c A Q ls C Y hX htab hl hret => ?_)
  obtain ⟨hx, hb, hml, hown, hts, hK, hA⟩ := id C
  have hl : lv_has ls 3 [(0, .ref (a 6 99)), (1, .int p1)] := hl
  refine lv_aload_n hx hb dL_on_0 rfl (lv_at hl 0 rfl) ?_
  refine lv_iload_n hx hb dL_on_1 rfl (lv_at hl 1 rfl) ?_
  refine z_callXv C Y hX (c_X6_on l hlt hv) (frw_6 ..) (cwV 1 hts gL_on_X6_on rfl rfl rfl (by decide +kernel) ⟨Nat.le_of_ble_eq_true rfl, Nat.le_of_ble_eq_true rfl⟩) (ge6_6 ..) rfl rfl rfl hl.1 rfl (Nat.le_of_ble_eq_true rfl) dL_on_2 ⟨Nat.le_of_ble_eq_true rfl, Nat.le_of_ble_eq_true rfl⟩ (fun E ce q9 ⟨u0_1, u1_2, u2_3, u3_4, u4_5, u5_6⟩ H locs Y hv hce hcv hcl => ?_) (fun ⟨u0_1, u1_2, u2_3, u3_4, u4_5, u5_6⟩ H locs Y hv => ?_)
  · obtain ⟨rfl, hv⟩ := hv
    refine vx_catch (name := zIOB) hown [] ⟨0, 5, 8, 21⟩ [] (htab.trans rfl) (fun z hz => by cases hz) (by decide) (by decide) (hts (.classLink RL 21 zIOB) (by decide +kernel)) (zBw_use hX.2.2.2.1 (.castable zIOB zIOB) (by decide +kernel)) hce hcv hcl ?_
    refine lv_astore_n (lv' := [(2, .ref q9), (0, .ref (a 6 99)), (1, .int p1)]) hx hb dL_on_8 rfl hl (by decide) rfl (fun ls hl => ?_)
    refine lv_iconst (v := 1) hx hb dL_on_9 (by decide) ?_
    exact hret Y hv dL_on_10
  · refine lv_goto (tgt := 11) hx hb dL_on_5 (by decide) ?_
    refine lv_iconst (v := 0) hx hb dL_on_11 (by decide) ?_
    exact hret Y hv dL_on_12

