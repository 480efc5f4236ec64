theorem in_X3_add_3 : ∀ w ∈ wsX30, w ∈ wsX3_add := by first | exact fun w h => List.mem_cons_of_mem _ (List.mem_append_right _ h) | exact fun w h => List.mem_cons_of_mem _ (List.mem_append_left _ (List.mem_append_right _ h)) | decide +kernel
theorem fl_X3_add_9 : Cond.fieldLink RX3 9 (TX3 0).1 (TX3 0).2.1 (TX3 0).2.2.1 ∈ wsX3_add := by decide +kernel
theorem fl_X3_add_15 : Cond.fieldLink RX3 15 (TX3 1).1 (TX3 1).2.1 (TX3 1).2.2.1 ∈ wsX3_add := by decide +kernel
theorem fl_X3_add_21 : Cond.fieldLink RX3 21 (TX3 3).1 (TX3 3).2.1 (TX3 3).2.2.1 ∈ wsX3_add := by decide +kernel
theorem fl_X3_add_24 : Cond.fieldLink RX3 24 (TX3 4).1 (TX3 4).2.1 (TX3 4).2.2.1 ∈ wsX3_add := by decide +kernel
theorem fl_X3_add_30 : Cond.fieldLink RX3 30 (TX3 5).1 (TX3 5).2.1 (TX3 5).2.2.1 ∈ wsX3_add := by decide +kernel
section
variable {p : Program} {l : Launch} {e : Env} {s : State} {m : MethodId} {args : Array Value} {below : List Frame} {meth : Method} {c : Code} {H : Heap} {locs : List Loc} {Q : State → Prop} {D : va_G} {cI cZ cJ : ClassId} {A : Nat → Prop} {ls : Array Slot}
def wp_X3_add_0 (Q1 : Int32 → zSt → Prop) (p1 : Int32) (p2 : Int32) (p3 : Int32) (p4 : Int32) (u3 : zSt) : Prop :=
  ∀ x5_1 : Int32, x5_1 = (u3.1 5) → vp_in x5_1 12 ∧ (∀ u3_2 : zSt, u3_2 = zA u3 0 (upd (u3.2 0) x5_1.toNatClampNeg p1) → vp_in x5_1 12 ∧ (∀ u3_3 : zSt, u3_3 = zA u3_2 1 (upd (u3_2.2 1) x5_1.toNatClampNeg p2) → vp_in x5_1 12 ∧ (∀ u3_4 : zSt, u3_4 = zA u3_3 3 (upd (u3_3.2 3) x5_1.toNatClampNeg p3) → vp_in x5_1 12 ∧ (∀ u3_5 : zSt, u3_5 = zA u3_4 4 (upd (u3_4.2 4) x5_1.toNatClampNeg p4) → ∀ u3_6 : zSt, u3_6 = zI u3_5 5 ((u3_5.1 5) + 1) → Q1 x5_1 u3_6))))

set_option maxHeartbeats 4000000 in
set_option maxRecDepth 100000 in
theorem bk_X3_add_0 {a : Nat → Nat → Nat} {Q1 : Int32 → zSt → Prop} {p1 : Int32} {p2 : Int32} {p3 : Int32} {p4 : Int32} {u3 : zSt} (C : zCx p s m args c cX3_add 6 RX3 wsX3_add D cI cZ cJ A) (Y : zDy D A s.heap (k3 a cI cZ u3) H locs) (hl : lv_has ls 6 [(0, .ref (a 3 99)), (1, .int p1), (2, .int p2), (3, .int p3), (4, .int p4)]) (hret : ∀ {pc : Nat} {H : Heap} {locs : List Loc} {ls : Array Slot} {r : Int32} {u : zSt}, zDy D A s.heap ((fun u : zSt => k3 a cI cZ u) u) H locs → Q1 r u → decode cX3_add pc = .ok (.ireturn, 1) → W p l e ({ frames := 0, cells := 0, slots := 0, locals := 0 } : Room) s m args below meth c H locs 0 0 Q (F0 m pc ls [.int r])) (hv : wp_X3_add_0 Q1 p1 p2 p3 p4 u3) : W p l e ({ frames := 0, cells := 0, slots := 0, locals := 0 } : Room) s m args below meth c H locs 0 0 Q (F0 m 0 ls []) := by
  unfold wp_X3_add_0 at hv
  obtain ⟨hx, hb, hml, hown, hts, hK, hA⟩ := id C
  refine lv_aload_n hx hb dX3_add_0 rfl (lv_at hl 0 rfl) ?_
  refine z_get C Y (Cn := RX3) (T := TX3) (N := 9) in_X3_add_3 rfl (ge3_3 ..) 5 (by decide) fl_X3_add_30 rfl dX3_add_1 ?_
  refine z_topi hv (fun x5_1 ex5_1 hv => ?_)
  refine lv_istore (lv' := [(5, .int x5_1), (0, .ref (a 3 99)), (1, .int p1), (2, .int p2), (3, .int p3), (4, .int p4)]) hx hb dX3_add_4 hl (by decide) rfl (fun ls hl => ?_)
  refine lv_aload_n hx hb dX3_add_6 rfl (lv_at hl 1 rfl) ?_
  refine z_get C Y (Cn := RX3) (T := TX3) (N := 9) in_X3_add_3 rfl (ge3_3 ..) 0 (by decide) fl_X3_add_9 rfl dX3_add_7 ?_
  refine lv_iload hx hb dX3_add_10 (lv_at hl 0 rfl) ?_
  refine lv_iload_n hx hb dX3_add_12 rfl (lv_at hl 2 rfl) ?_
  obtain ⟨hi, hv⟩ := hv
  refine z_stI C Y (pa3_3_0 ..) (sa3_3_0 ..) hi dX3_add_13 (fun H locs Y => ?_)
  obtain ⟨u3_2, eu3_2, Y, hv⟩ := z_nm (kf := fun z => (k3 a cI cZ z)) Y hv
  refine lv_aload_n hx hb dX3_add_14 rfl (lv_at hl 1 rfl) ?_
  refine z_get C Y (Cn := RX3) (T := TX3) (N := 9) in_X3_add_3 rfl (ge3_3 ..) 1 (by decide) fl_X3_add_15 rfl dX3_add_15 ?_
  refine lv_iload hx hb dX3_add_18 (lv_at hl 0 rfl) ?_
  refine lv_iload_n hx hb dX3_add_20 rfl (lv_at hl 3 rfl) ?_
  obtain ⟨hi, hv⟩ := hv
  refine z_stI C Y (pa3_3_1 ..) (sa3_3_1 ..) hi dX3_add_21 (fun H locs Y => ?_)
  obtain ⟨u3_3, eu3_3, Y, hv⟩ := z_nm (kf := fun z => (k3 a cI cZ z)) Y hv
  refine lv_aload_n hx hb dX3_add_22 rfl (lv_at hl 1 rfl) ?_
  refine z_get C Y (Cn := RX3) (T := TX3) (N := 9) in_X3_add_3 rfl (ge3_3 ..) 3 (by decide) fl_X3_add_21 rfl dX3_add_23 ?_
  refine lv_iload hx hb dX3_add_26 (lv_at hl 0 rfl) ?_
  refine lv_iload_n hx hb dX3_add_28 rfl (lv_at hl 4 rfl) ?_
  obtain ⟨hi, hv⟩ := hv
  refine z_stI C Y (pa3_3_3 ..) (sa3_3_3 ..) hi dX3_add_29 (fun H locs Y => ?_)
  obtain ⟨u3_4, eu3_4, Y, hv⟩ := z_nm (kf := fun z => (k3 a cI cZ z)) Y hv
  refine lv_aload_n hx hb dX3_add_30 rfl (lv_at hl 1 rfl) ?_
  refine z_get C Y (Cn := RX3) (T := TX3) (N := 9) in_X3_add_3 rfl (ge3_3 ..) 4 (by decide) fl_X3_add_24 rfl dX3_add_31 ?_
  refine lv_iload hx hb dX3_add_34 (lv_at hl 0 rfl) ?_
  refine lv_iload hx hb dX3_add_36 (lv_at hl 5 rfl) ?_
  obtain ⟨hi, hv⟩ := hv
  refine z_stI C Y (pa3_3_4 ..) (sa3_3_4 ..) hi dX3_add_38 (fun H locs Y => ?_)
  obtain ⟨u3_5, eu3_5, Y, hv⟩ := z_nm (kf := fun z => (k3 a cI cZ z)) Y hv
  refine lv_aload_n hx hb dX3_add_39 rfl (lv_at hl 1 rfl) ?_
  refine lv_dup hx hb dX3_add_40 rfl ?_
  refine z_get C Y (Cn := RX3) (T := TX3) (N := 9) in_X3_add_3 rfl (ge3_3 ..) 5 (by decide) fl_X3_add_30 rfl dX3_add_41 ?_
  refine lv_iconst (v := 1) hx hb dX3_add_44 (by decide) ?_
  refine lv_iadd hx hb dX3_add_45 ?_
  refine z_putI C Y (Cn := RX3) (T := TX3) (N := 9) in_X3_add_3 rfl tyX3 tyX3_ok nmX3 (ge3_3 ..) 5 (by decide) fl_X3_add_30 rfl (by decide +kernel) (Nat.le_of_ble_eq_true rfl) (si3_3_5 ..) dX3_add_46 (fun H locs Y => ?_)
  obtain ⟨u3_6, eu3_6, Y, hv⟩ := z_nm (kf := fun z => (k3 a cI cZ z)) Y hv
  refine lv_iload hx hb dX3_add_49 (lv_at hl 0 rfl) ?_
  exact hret Y hv dX3_add_51

end
abbrev TX3_add := wp_X3_add_0
set_option maxHeartbeats 4000000 in
set_option maxRecDepth 100000 in
theorem c_X3_add (l : Launch) {D : va_G} {cI cZ cJ : ClassId} {a : Nat → Nat → Nat} {Q1 : Int32 → zSt → Prop} {p1 : Int32} {p2 : Int32} {p3 : Int32} {p4 : Int32} {u3 : zSt} (hv : wp_X3_add_0 Q1 p1 p2 p3 p4 u3) : zMI l yX3_add wsX3_add ({ frames := 0, cells := 0, slots := 0, locals := 0 } : Room) D cI cZ cJ [.ref (a 3 99), .int p1, .int p2, .int p3, .int p4] (k3 a cI cZ u3) (fun u : zSt => k3 a cI cZ u) Q1 :=
  z_ofI (by decide) rfl rfl (Nat.le_of_ble_eq_true rfl) (fun C Y hl hret => bk_X3_add_0 C Y hl hret hv)


theorem in_X3_areOfTheirKinds_3 : ∀ w ∈ wsX30, w ∈ wsX3_areOfTheirKinds := by first | exact fun w h => List.mem_cons_of_mem _ (List.mem_append_right _ h) | exact fun w h => List.mem_cons_of_mem _ (List.mem_append_left _ (List.mem_append_right _ h)) | decide +kernel
theorem fl_X3_areOfTheirKinds_9 : Cond.fieldLink RX3 9 (TX3 0).1 (TX3 0).2.1 (TX3 0).2.2.1 ∈ wsX3_areOfTheirKinds := by decide +kernel
section
variable {p : Program} {l : Launch} {e : Env} {s : State} {m : MethodId} {args : Array Value} {below : List Frame} {meth : Method} {c : Code} {H : Heap} {locs : List Loc} {Q : State → Prop} {D : va_G} {cI cZ cJ : ClassId} {A : Nat → Prop} {ls : Array Slot}
def wp_X3_areOfTheirKinds_0 (Q1 : Int32 → zSt → Prop) (p1 : Int32) (p2 : Int32) (p3 : Int32) (u3 : zSt) : Prop :=
  vp_in p1 12 ∧ (((u3.2 0 p1.toNatClampNeg) = (0 : Int32) → vp_in p2 12 ∧ (((u3.2 0 p2.toNatClampNeg) = (1 : Int32) → vp_in p3 12 ∧ (((u3.2 0 p3.toNatClampNeg) = (2 : Int32) → Q1 1 u3) ∧ (¬ (u3.2 0 p3.toNatClampNeg) = (2 : Int32) → Q1 0 u3))) ∧ (¬ (u3.2 0 p2.toNatClampNeg) = (1 : Int32) → Q1 0 u3))) ∧ (¬ (u3.2 0 p1.toNatClampNeg) = (0 : Int32) → Q1 0 u3))

set_option maxHeartbeats 4000000 in
set_option maxRecDepth 100000 in
theorem bk_X3_areOfTheirKinds_0 {a : Nat → Nat → Nat} {Q1 : Int32 → zSt → Prop} {p1 : Int32} {p2 : Int32} {p3 : Int32} {u3 : zSt} (C : zCx p s m args c cX3_areOfTheirKinds 4 RX3 wsX3_areOfTheirKinds D cI cZ cJ A) (Y : zDy D A s.heap (k3 a cI cZ u3) H locs) (hl : lv_has ls 4 [(0, .ref (a 3 99)), (1, .int p1), (2, .int p2), (3, .int p3)]) (hret : ∀ {pc : Nat} {H : Heap} {locs : List Loc} {ls : Array Slot} {r : Int32} {u : zSt}, zDy D A s.heap ((fun u : zSt => k3 a cI cZ u) u) H locs → (r = 0 ∨ r = 1) → Q1 r u → decode cX3_areOfTheirKinds pc = .ok (.ireturn, 1) → W p l e ({ frames := 0, cells := 0, slots := 0, locals := 0 } : Room) s m args below meth c H locs 0 0 Q (F0 m pc ls [.int r])) (hv : wp_X3_areOfTheirKinds_0 Q1 p1 p2 p3 u3) : W p l e ({ frames := 0, cells := 0, slots := 0, locals := 0 } : Room) s m args below meth c H locs 0 0 Q (F0 m 0 ls []) := by
  unfold wp_X3_areOfTheirKinds_0 at hv
  obtain ⟨hx, hb, hml, hown, hts, hK, hA⟩ := id C
  refine lv_aload_n hx hb dX3_areOfTheirKinds_0 rfl (lv_at hl 0 rfl) ?_
  refine z_get C Y (Cn := RX3) (T := TX3) (N := 9) in_X3_areOfTheirKinds_3 rfl (ge3_3 ..) 0 (by decide) fl_X3_areOfTheirKinds_9 rfl dX3_areOfTheirKinds_1 ?_
  refine lv_iload_n hx hb dX3_areOfTheirKinds_4 rfl (lv_at hl 1 rfl) ?_
  obtain ⟨hi, hv⟩ := hv
  refine z_ldI C Y (pa3_3_0 ..) hi dX3_areOfTheirKinds_5 ?_
  refine lv_if_ne (tgt := 33) hx hb dX3_areOfTheirKinds_6 (by decide) (fun hc => ?_) (fun hc => ?_)
  · have hv := hv.2 hc
    refine lv_iconst (v := 0) hx hb dX3_areOfTheirKinds_33 (by decide) ?_
    exact hret Y (Or.inl rfl) hv dX3_areOfTheirKinds_34
  · have hv := hv.1 hc
    refine lv_aload_n hx hb dX3_areOfTheirKinds_9 rfl (lv_at hl 0 rfl) ?_
    refine z_get C Y (Cn := RX3) (T := TX3) (N := 9) in_X3_areOfTheirKinds_3 rfl (ge3_3 ..) 0 (by decide) fl_X3_areOfTheirKinds_9 rfl dX3_areOfTheirKinds_10 ?_
    refine lv_iload_n hx hb dX3_areOfTheirKinds_13 rfl (lv_at hl 2 rfl) ?_
    obtain ⟨hi, hv⟩ := hv
    refine z_ldI C Y (pa3_3_0 ..) hi dX3_areOfTheirKinds_14 ?_
    refine lv_iconst (v := 1) hx hb dX3_areOfTheirKinds_15 (by decide) ?_
    refine lv_icmp_ne (tgt := 33) hx hb dX3_areOfTheirKinds_16 (by decide) (fun hc => ?_) (fun hc => ?_)
    · have hv := hv.2 hc
      refine lv_iconst (v := 0) hx hb dX3_areOfTheirKinds_33 (by decide) ?_
      exact hret Y (Or.inl rfl) hv dX3_areOfTheirKinds_34
    · have hv := hv.1 hc
      refine lv_aload_n hx hb dX3_areOfTheirKinds_19 rfl (lv_at hl 0 rfl) ?_
      refine z_get C Y (Cn := RX3) (T := TX3) (N := 9) in_X3_areOfTheirKinds_3 rfl (ge3_3 ..) 0 (by decide) fl_X3_areOfTheirKinds_9 rfl dX3_areOfTheirKinds_20 ?_
      refine lv_iload_n hx hb dX3_areOfTheirKinds_23 rfl (lv_at hl 3 rfl) ?_
      obtain ⟨hi, hv⟩ := hv
      refine z_ldI C Y (pa3_3_0 ..) hi dX3_areOfTheirKinds_24 ?_
      refine lv_iconst (v := 2) hx hb dX3_areOfTheirKinds_25 (by decide) ?_
      refine lv_icmp_ne (tgt := 33) hx hb dX3_areOfTheirKinds_26 (by decide) (fun hc => ?_) (fun hc => ?_)
      · have hv := hv.2 hc
        refine lv_iconst (v := 0) hx hb dX3_areOfTheirKinds_33 (by decide) ?_
        exact hret Y (Or.inl rfl) hv dX3_areOfTheirKinds_34
      · have hv := hv.1 hc
        refine lv_iconst (v := 1) hx hb dX3_areOfTheirKinds_29 (by decide) ?_
        refine lv_goto (tgt := 34) hx hb dX3_areOfTheirKinds_30 (by decide) ?_
        exact hret Y (Or.inr rfl) hv dX3_areOfTheirKinds_34

end
abbrev TX3_areOfTheirKinds := wp_X3_areOfTheirKinds_0
set_option maxHeartbeats 4000000 in
set_option maxRecDepth 100000 in
theorem c_X3_areOfTheirKinds (l : Launch) {D : va_G} {cI cZ cJ : ClassId} {a : Nat → Nat → Nat} {Q1 : Int32 → zSt → Prop} {p1 : Int32} {p2 : Int32} {p3 : Int32} {u3 : zSt} (hv : wp_X3_areOfTheirKinds_0 Q1 p1 p2 p3 u3) : zMI l yX3_areOfTheirKinds wsX3_areOfTheirKinds ({ frames := 0, cells := 0, slots := 0, locals := 0 } : Room) D cI cZ cJ [.ref (a 3 99), .int p1, .int p2, .int p3] (k3 a cI cZ u3) (fun u : zSt => k3 a cI cZ u) Q1 :=
  z_ofZ (by decide) rfl rfl (Nat.le_of_ble_eq_true rfl) (fun C Y hl hret => bk_X3_areOfTheirKinds_0 C Y hl hret hv)


theorem in_X3_haveAll_3 : ∀ w ∈ wsX30, w ∈ wsX3_haveAll := by first | exact fun w h => List.mem_cons_of_mem _ (List.mem_append_right _ h) | exact fun w h => List.mem_cons_of_mem _ (List.mem_append_left _ (List.mem_append_right _ h)) | decide +kernel
theorem fl_X3_haveAll_15 : Cond.fieldLink RX3 15 (TX3 1).1 (TX3 1).2.1 (TX3 1).2.2.1 ∈ wsX3_haveAll := by decide +kernel
section
variable {p : Program} {l : Launch} {e : Env} {s : State} {m : MethodId} {args : Array Value} {below : List Frame} {meth : Method} {c : Code} {H : Heap} {locs : List Loc} {Q : State → Prop} {D : va_G} {cI cZ cJ : ClassId} {A : Nat → Prop} {ls : Array Slot}
def wp_X3_haveAll_0 (Q1 : Int32 → zSt → Prop) (p1 : Int32) (p2 : Int32) (p3 : Int32) (p4 : Int32) (u3 : zSt) : Prop :=
  vp_in p1 12 ∧ (((u3.2 1 p1.toNatClampNeg) < p4 → Q1 0 u3) ∧ (¬ (u3.2 1 p1.toNatClampNeg) < p4 → vp_in p2 12 ∧ (((u3.2 1 p2.toNatClampNeg) < p4 → Q1 0 u3) ∧ (¬ (u3.2 1 p2.toNatClampNeg) < p4 → vp_in p3 12 ∧ (((u3.2 1 p3.toNatClampNeg) < p4 → Q1 0 u3) ∧ (¬ (u3.2 1 p3.toNatClampNeg) < p4 → Q1 1 u3))))))

set_option maxHeartbeats 4000000 in
set_option maxRecDepth 100000 in
theorem bk_X3_haveAll_0 {a : Nat → Nat → Nat} {Q1 : Int32 → zSt → Prop} {p1 : Int32} {p2 : Int32} {p3 : Int32} {p4 : Int32} {u3 : zSt} (C : zCx p s m args c cX3_haveAll 5 RX3 wsX3_haveAll D cI cZ cJ A) (Y : zDy D A s.heap (k3 a cI cZ u3) H locs) (hl : lv_has ls 5 [(0, .ref (a 3 99)), (1, .int p1), (2, .int p2), (3, .int p3), (4, .int p4)]) (hret : ∀ {pc : Nat} {H : Heap} {locs : List Loc} {ls : Array Slot} {r : Int32} {u : zSt}, zDy D A s.heap ((fun u : zSt => k3 a cI cZ u) u) H locs → (r = 0 ∨ r = 1) → Q1 r u → decode cX3_haveAll pc = .ok (.ireturn, 1) → W p l e ({ frames := 0, cells := 0, slots := 0, locals := 0 } : Room) s m args below meth c H locs 0 0 Q (F0 m pc ls [.int r])) (hv : wp_X3_haveAll_0 Q1 p1 p2 p3 p4 u3) : W p l e ({ frames := 0, cells := 0, slots := 0, locals := 0 } : Room) s m args below meth c H locs 0 0 Q (F0 m 0 ls []) := by
  unfold wp_X3_haveAll_0 at hv
  obtain ⟨hx, hb, hml, hown, hts, hK, hA⟩ := id C
  refine lv_aload_n hx hb dX3_haveAll_0 rfl (lv_at hl 0 rfl) ?_
  refine z_get C Y (Cn := RX3) (T := TX3) (N := 9) in_X3_haveAll_3 rfl (ge3_3 ..) 1 (by decide) fl_X3_haveAll_15 rfl dX3_haveAll_1 ?_
  refine lv_iload_n hx hb dX3_haveAll_4 rfl (lv_at hl 1 rfl) ?_
  obtain ⟨hi, hv⟩ := hv
  refine z_ldI C Y (pa3_3_1 ..) hi dX3_haveAll_5 ?_
  refine lv_iload hx hb dX3_haveAll_6 (lv_at hl 4 rfl) ?_
  refine lv_icmp_lt (tgt := 37) hx hb dX3_haveAll_8 (by decide) (fun hc => ?_) (fun hc => ?_)
  · have hv := hv.1 hc
    refine lv_iconst (v := 0) hx hb dX3_haveAll_37 (by decide) ?_
    exact hret Y (Or.inl rfl) hv dX3_haveAll_38
  · have hv := hv.2 hc
    refine lv_aload_n hx hb dX3_haveAll_11 rfl (lv_at hl 0 rfl) ?_
    refine z_get C Y (Cn := RX3) (T := TX3) (N := 9) in_X3_haveAll_3 rfl (ge3_3 ..) 1 (by decide) fl_X3_haveAll_15 rfl dX3_haveAll_12 ?_
    refine lv_iload_n hx hb dX3_haveAll_15 rfl (lv_at hl 2 rfl) ?_
    obtain ⟨hi, hv⟩ := hv
    refine z_ldI C Y (pa3_3_1 ..) hi dX3_haveAll_16 ?_
    refine lv_iload hx hb dX3_haveAll_17 (lv_at hl 4 rfl) ?_
    refine lv_icmp_lt (tgt := 37) hx hb dX3_haveAll_19 (by decide) (fun hc => ?_) (fun hc => ?_)
    · have hv := hv.1 hc
      refine lv_iconst (v := 0) hx hb dX3_haveAll_37 (by decide) ?_
      exact hret Y (Or.inl rfl) hv dX3_haveAll_38
    · have hv := hv.2 hc
      refine lv_aload_n hx hb dX3_haveAll_22 rfl (lv_at hl 0 rfl) ?_
      refine z_get C Y (Cn := RX3) (T := TX3) (N := 9) in_X3_haveAll_3 rfl (ge3_3 ..) 1 (by decide) fl_X3_haveAll_15 rfl dX3_haveAll_23 ?_
      refine lv_iload_n hx hb dX3_haveAll_26 rfl (lv_at hl 3 rfl) ?_
      obtain ⟨hi, hv⟩ := hv
      refine z_ldI C Y (pa3_3_1 ..) hi dX3_haveAll_27 ?_
      refine lv_iload hx hb dX3_haveAll_28 (lv_at hl 4 rfl) ?_
      refine lv_icmp_lt (tgt := 37) hx hb dX3_haveAll_30 (by decide) (fun hc => ?_) (fun hc => ?_)
      · have hv := hv.1 hc
        refine lv_iconst (v := 0) hx hb dX3_haveAll_37 (by decide) ?_
        exact hret Y (Or.inl rfl) hv dX3_haveAll_38
      · have hv := hv.2 hc
        refine lv_iconst (v := 1) hx hb dX3_haveAll_33 (by decide) ?_
        refine lv_goto (tgt := 38) hx hb dX3_haveAll_34 (by decide) ?_
        exact hret Y (Or.inr rfl) hv dX3_haveAll_38

end
abbrev TX3_haveAll := wp_X3_haveAll_0
set_option maxHeartbeats 4000000 in
set_option maxRecDepth 100000 in
theorem c_X3_haveAll (l : Launch) {D : va_G} {cI cZ cJ : ClassId} {a : Nat → Nat → Nat} {Q1 : Int32 → zSt → Prop} {p1 : Int32} {p2 : Int32} {p3 : Int32} {p4 : Int32} {u3 : zSt} (hv : wp_X3_haveAll_0 Q1 p1 p2 p3 p4 u3) : zMI l yX3_haveAll wsX3_haveAll ({ frames := 0, cells := 0, slots := 0, locals := 0 } : Room) D cI cZ cJ [.ref (a 3 99), .int p1, .int p2, .int p3, .int p4] (k3 a cI cZ u3) (fun u : zSt => k3 a cI cZ u) Q1 :=
  z_ofZ (by decide) rfl rfl (Nat.le_of_ble_eq_true rfl) (fun C Y hl hret => bk_X3_haveAll_0 C Y hl hret hv)


theorem in_X3_use_3 : ∀ w ∈ wsX30, w ∈ wsX3_use := by first | exact fun w h => List.mem_cons_of_mem _ (List.mem_append_right _ h) | exact fun w h => List.mem_cons_of_mem _ (List.mem_append_left _ (List.mem_append_right _ h)) | decide +kernel
theorem fl_X3_use_15 : Cond.fieldLink RX3 15 (TX3 1).1 (TX3 1).2.1 (TX3 1).2.2.1 ∈ wsX3_use := by decide +kernel
theorem fl_X3_use_18 : Cond.fieldLink RX3 18 (TX3 2).1 (TX3 2).2.1 (TX3 2).2.2.1 ∈ wsX3_use := by decide +kernel
section
variable {p : Program} {l : Launch} {e : Env} {s : State} {m : MethodId} {args : Array Value} {below : List Frame} {meth : Method} {c : Code} {H : Heap} {locs : List Loc} {Q : State → Prop} {D : va_G} {cI cZ cJ : ClassId} {A : Nat → Prop} {ls : Array Slot}
def wp_X3_use_0 (Q1 : zSt → Prop) (p1 : Int32) (p2 : Int32) (u3 : zSt) : Prop :=
  vp_in p1 12 ∧ (vp_in p1 12 ∧ (∀ u3_1 : zSt, u3_1 = zA u3 1 (upd (u3.2 1) p1.toNatClampNeg ((u3.2 1 p1.toNatClampNeg) - p2)) → vp_in p1 12 ∧ (vp_in p1 12 ∧ (∀ u3_2 : zSt, u3_2 = zA u3_1 2 (upd (u3_1.2 2) p1.toNatClampNeg ((u3_1.2 2 p1.toNatClampNeg) + p2)) → Q1 u3_2))))

set_option maxHeartbeats 4000000 in
set_option maxRecDepth 100000 in
theorem bk_X3_use_0 {a : Nat → Nat → Nat} {Q1 : zSt → Prop} {p1 : Int32} {p2 : Int32} {u3 : zSt} (C : zCx p s m args c cX3_use 3 RX3 wsX3_use D cI cZ cJ A) (Y : zDy D A s.heap (k3 a cI cZ u3) H locs) (hl : lv_has ls 3 [(0, .ref (a 3 99)), (1, .int p1), (2, .int p2)]) (hret : ∀ {pc : Nat} {H : Heap} {locs : List Loc} {ls : Array Slot} {u : zSt}, zDy D A s.heap ((fun u : zSt => k3 a cI cZ u) u) H locs → Q1 u → decode cX3_use pc = .ok (.return_, 1) → W p l e ({ frames := 0, cells := 0, slots := 0, locals := 0 } : Room) s m args below meth c H locs 0 0 Q (F0 m pc ls [])) (hv : wp_X3_use_0 Q1 p1 p2 u3) : W p l e ({ frames := 0, cells := 0, slots := 0, locals := 0 } : Room) s m args below meth c H locs 0 0 Q (F0 m 0 ls []) := by
  unfold wp_X3_use_0 at hv
  obtain ⟨hx, hb, hml, hown, hts, hK, hA⟩ := id C
  refine lv_aload_n hx hb dX3_use_0 rfl (lv_at hl 0 rfl) ?_
  refine z_get C Y (Cn := RX3) (T := TX3) (N := 9) in_X3_use_3 rfl (ge3_3 ..) 1 (by decide) fl_X3_use_15 rfl dX3_use_1 ?_
  refine lv_iload_n hx hb dX3_use_4 rfl (lv_at hl 1 rfl) ?_
  refine lv_dup2_11 hx hb dX3_use_5 rfl rfl ?_
  obtain ⟨hi, hv⟩ := hv
  refine z_ldI C Y (pa3_3_1 ..) hi dX3_use_6 ?_
  refine lv_iload_n hx hb dX3_use_7 rfl (lv_at hl 2 rfl) ?_
  refine lv_isub hx hb dX3_use_8 ?_
  obtain ⟨hi, hv⟩ := hv
  refine z_stI C Y (pa3_3_1 ..) (sa3_3_1 ..) hi dX3_use_9 (fun H locs Y => ?_)
  obtain ⟨u3_1, eu3_1, Y, hv⟩ := z_nm (kf := fun z => (k3 a cI cZ z)) Y hv
  refine lv_aload_n hx hb dX3_use_10 rfl (lv_at hl 0 rfl) ?_
  refine z_get C Y (Cn := RX3) (T := TX3) (N := 9) in_X3_use_3 rfl (ge3_3 ..) 2 (by decide) fl_X3_use_18 rfl dX3_use_11 ?_
  refine lv_iload_n hx hb dX3_use_14 rfl (lv_at hl 1 rfl) ?_
  refine lv_dup2_11 hx hb dX3_use_15 rfl rfl ?_
  obtain ⟨hi, hv⟩ := hv
  refine z_ldI C Y (pa3_3_2 ..) hi dX3_use_16 ?_
  refine lv_iload_n hx hb dX3_use_17 rfl (lv_at hl 2 rfl) ?_
  refine lv_iadd hx hb dX3_use_18 ?_
  obtain ⟨hi, hv⟩ := hv
  refine z_stI C Y (pa3_3_2 ..) (sa3_3_2 ..) hi dX3_use_19 (fun H locs Y => ?_)
  obtain ⟨u3_2, eu3_2, Y, hv⟩ := z_nm (kf := fun z => (k3 a cI cZ z)) Y hv
  exact hret Y hv dX3_use_20

end
abbrev TX3_use := wp_X3_use_0
set_option maxHeartbeats 4000000 in
set_option maxRecDepth 100000 in
theorem c_X3_use (l : Launch) {D : va_G} {cI cZ cJ : ClassId} {a : Nat → Nat → Nat} {Q1 : zSt → Prop} {p1 : Int32} {p2 : Int32} {u3 : zSt} (hv : wp_X3_use_0 Q1 p1 p2 u3) : zMV l yX3_use wsX3_use ({ frames := 0, cells := 0, slots := 0, locals := 0 } : Room) D cI cZ cJ [.ref (a 3 99), .int p1, .int p2] (k3 a cI cZ u3) (fun u : zSt => k3 a cI cZ u) Q1 :=
  z_ofV (by decide) rfl rfl (Nat.le_of_ble_eq_true rfl) (fun C Y hl hret => bk_X3_use_0 C Y hl hret hv)


theorem in_X3_addBatch_3 : ∀ w ∈ wsX30, w ∈ wsX3_addBatch := by first | exact fun w h => List.mem_cons_of_mem _ (List.mem_append_right _ h) | exact fun w h => List.mem_cons_of_mem _ (List.mem_append_left _ (List.mem_append_right _ h)) | decide +kernel
theorem fl_X3_addBatch_27 : Cond.fieldLink RX3 27 (TX3 6).1 (TX3 6).2.1 (TX3 6).2.2.1 ∈ wsX3_addBatch := by decide +kernel
theorem fl_X3_addBatch_38 : Cond.fieldLink RX3 38 (TX3 8).1 (TX3 8).2.1 (TX3 8).2.2.1 ∈ wsX3_addBatch := by decide +kernel
theorem fl_X3_addBatch_41 : Cond.fieldLink RX3 41 (TX3 7).1 (TX3 7).2.1 (TX3 7).2.2.1 ∈ wsX3_addBatch := by decide +kernel
section
variable {p : Program} {l : Launch} {e : Env} {s : State} {m : MethodId} {args : Array Value} {below : List Frame} {meth : Method} {c : Code} {H : Heap} {locs : List Loc} {Q : State → Prop} {D : va_G} {cI cZ cJ : ClassId} {A : Nat → Prop} {ls : Array Slot}
def wp_X3_addBatch_0 (Q1 : Int32 → zSt → Prop) (p1 : Int32) (p2 : Int32) (p3 : Int32) (p4 : Int32) (u3 : zSt) : Prop :=
  TX3_use (fun (u3_1 : zSt) => TX3_use (fun (u3_3 : zSt) => TX3_use (fun (u3_5 : zSt) => ∀ u3_7 : zSt, u3_7 = zI u3_5 8 ((u3_5.1 8) + p4) → ∀ x5_8 : Int32, x5_8 = (u3_7.1 7) → vp_in x5_8 60 ∧ (∀ u3_9 : zSt, u3_9 = zA u3_7 6 (upd (u3_7.2 6) x5_8.toNatClampNeg ((((1 : Int32) <<< ((p1 : Int32) &&& 31)) ||| ((1 : Int32) <<< ((p2 : Int32) &&& 31))) ||| ((1 : Int32) <<< ((p3 : Int32) &&& 31)))) → ∀ u3_10 : zSt, u3_10 = zI u3_9 7 ((u3_9.1 7) + 1) → Q1 x5_8 u3_10)) p3 p4 u3_3) p2 p4 u3_1) p1 p4 u3

set_option maxHeartbeats 4000000 in
set_option maxRecDepth 100000 in
theorem bk_X3_addBatch_0 {a : Nat → Nat → Nat} {Q1 : Int32 → zSt → Prop} {p1 : Int32} {p2 : Int32} {p3 : Int32} {p4 : Int32} {u3 : zSt} (C : zCx p s m args c cX3_addBatch 6 RX3 wsX3_addBatch D cI cZ cJ A) (Y : zDy D A s.heap (k3 a cI cZ u3) H locs) (hl : lv_has ls 6 [(0, .ref (a 3 99)), (1, .int p1), (2, .int p2), (3, .int p3), (4, .int p4)]) (hret : ∀ {pc : Nat} {H : Heap} {locs : List Loc} {ls : Array Slot} {r : Int32} {u : zSt}, zDy D A s.heap ((fun u : zSt => k3 a cI cZ u) u) H locs → Q1 r u → decode cX3_addBatch pc = .ok (.ireturn, 1) → W p l e ({ frames := 1, cells := 0, slots := 0, locals := 22 } : Room) s m args below meth c H locs 0 0 Q (F0 m pc ls [.int r])) (hv : wp_X3_addBatch_0 Q1 p1 p2 p3 p4 u3) : W p l e ({ frames := 1, cells := 0, slots := 0, locals := 22 } : Room) s m args below meth c H locs 0 0 Q (F0 m 0 ls []) := by
  unfold wp_X3_addBatch_0 at hv
  obtain ⟨hx, hb, hml, hown, hts, hK, hA⟩ := id C
  refine lv_aload_n hx hb dX3_addBatch_0 rfl (lv_at hl 0 rfl) ?_
  refine lv_iload_n hx hb dX3_addBatch_1 rfl (lv_at hl 1 rfl) ?_
  refine lv_iload hx hb dX3_addBatch_2 (lv_at hl 4 rfl) ?_
  refine z_callVv C Y (c_X3_use l hv) (zFr.self _ _) (cwV 2 hts gX3_addBatch_X3_use rfl rfl rfl (by decide +kernel) ⟨(Nat.le_of_ble_eq_true rfl), (Nat.le_of_ble_eq_true rfl)⟩) (ge3_3 ..) rfl rfl rfl hl.1 rfl (Nat.le_of_ble_eq_true rfl) dX3_addBatch_4 ⟨Nat.zero_le _, Nat.zero_le _⟩ (fun u3_1 H locs Y hv => ?_)
  refine lv_aload_n hx hb dX3_addBatch_7 rfl (lv_at hl 0 rfl) ?_
  refine lv_iload_n hx hb dX3_addBatch_8 rfl (lv_at hl 2 rfl) ?_
  refine lv_iload hx hb dX3_addBatch_9 (lv_at hl 4 rfl) ?_
  refine z_callVv C Y (c_X3_use l hv) (zFr.self _ _) (cwV 2 hts gX3_addBatch_X3_use rfl rfl rfl (by decide +kernel) ⟨(Nat.le_of_ble_eq_true rfl), (Nat.le_of_ble_eq_true rfl)⟩) (ge3_3 ..) rfl rfl rfl hl.1 rfl (Nat.le_of_ble_eq_true rfl) dX3_addBatch_11 ⟨Nat.zero_le _, Nat.zero_le _⟩ (fun u3_3 H locs Y hv => ?_)
  refine lv_aload_n hx hb dX3_addBatch_14 rfl (lv_at hl 0 rfl) ?_
  refine lv_iload_n hx hb dX3_addBatch_15 rfl (lv_at hl 3 rfl) ?_
  refine lv_iload hx hb dX3_addBatch_16 (lv_at hl 4 rfl) ?_
  refine z_callVv C Y (c_X3_use l hv) (zFr.self _ _) (cwV 2 hts gX3_addBatch_X3_use rfl rfl rfl (by decide +kernel) ⟨(Nat.le_of_ble_eq_true rfl), (Nat.le_of_ble_eq_true rfl)⟩) (ge3_3 ..) rfl rfl rfl hl.1 rfl (Nat.le_of_ble_eq_true rfl) dX3_addBatch_18 ⟨Nat.zero_le _, Nat.zero_le _⟩ (fun u3_5 H locs Y hv => ?_)
  refine lv_aload_n hx hb dX3_addBatch_21 rfl (lv_at hl 0 rfl) ?_
  refine lv_dup hx hb dX3_addBatch_22 rfl ?_
  refine z_get C Y (Cn := RX3) (T := TX3) (N := 9) in_X3_addBatch_3 rfl (ge3_3 ..) 8 (by decide) fl_X3_addBatch_38 rfl dX3_addBatch_23 ?_
  refine lv_iload hx hb dX3_addBatch_26 (lv_at hl 4 rfl) ?_
  refine lv_iadd hx hb dX3_addBatch_28 ?_
  refine z_putI C Y (Cn := RX3) (T := TX3) (N := 9) in_X3_addBatch_3 rfl tyX3 tyX3_ok nmX3 (ge3_3 ..) 8 (by decide) fl_X3_addBatch_38 rfl (by decide +kernel) (Nat.le_of_ble_eq_true rfl) (si3_3_8 ..) dX3_addBatch_29 (fun H locs Y => ?_)
  obtain ⟨u3_7, eu3_7, Y, hv⟩ := z_nm (kf := fun z => (k3 a cI cZ z)) Y hv
  refine lv_aload_n hx hb dX3_addBatch_32 rfl (lv_at hl 0 rfl) ?_
  refine z_get C Y (Cn := RX3) (T := TX3) (N := 9) in_X3_addBatch_3 rfl (ge3_3 ..) 7 (by decide) fl_X3_addBatch_41 rfl dX3_addBatch_33 ?_
  refine z_topi hv (fun x5_8 ex5_8 hv => ?_)
  refine lv_istore (lv' := [(5, .int x5_8), (0, .ref (a 3 99)), (1, .int p1), (2, .int p2), (3, .int p3), (4, .int p4)]) hx hb dX3_addBatch_36 hl (by decide) rfl (fun ls hl => ?_)
  refine lv_aload_n hx hb dX3_addBatch_38 rfl (lv_at hl 1 rfl) ?_
  refine z_get C Y (Cn := RX3) (T := TX3) (N := 9) in_X3_addBatch_3 rfl (ge3_3 ..) 6 (by decide) fl_X3_addBatch_27 rfl dX3_addBatch_39 ?_
  refine lv_iload hx hb dX3_addBatch_42 (lv_at hl 0 rfl) ?_
  refine lv_iconst (v := 1) hx hb dX3_addBatch_44 (by decide) ?_
  refine lv_iload_n hx hb dX3_addBatch_45 rfl (lv_at hl 2 rfl) ?_
  refine lv_ishl hx hb dX3_addBatch_46 ?_
  refine lv_iconst (v := 1) hx hb dX3_addBatch_47 (by decide) ?_
  refine lv_iload_n hx hb dX3_addBatch_48 rfl (lv_at hl 3 rfl) ?_
  refine lv_ishl hx hb dX3_addBatch_49 ?_
  refine lv_ior hx hb dX3_addBatch_50 ?_
  refine lv_iconst (v := 1) hx hb dX3_addBatch_51 (by decide) ?_
  refine lv_iload_n hx hb dX3_addBatch_52 rfl (lv_at hl 4 rfl) ?_
  refine lv_ishl hx hb dX3_addBatch_53 ?_
  refine lv_ior hx hb dX3_addBatch_54 ?_
  obtain ⟨hi, hv⟩ := hv
  refine z_stI C Y (pa3_3_6 ..) (sa3_3_6 ..) hi dX3_addBatch_55 (fun H locs Y => ?_)
  obtain ⟨u3_9, eu3_9, Y, hv⟩ := z_nm (kf := fun z => (k3 a cI cZ z)) Y hv
  refine lv_aload_n hx hb dX3_addBatch_56 rfl (lv_at hl 1 rfl) ?_
  refine lv_dup hx hb dX3_addBatch_57 rfl ?_
  refine z_get C Y (Cn := RX3) (T := TX3) (N := 9) in_X3_addBatch_3 rfl (ge3_3 ..) 7 (by decide) fl_X3_addBatch_41 rfl dX3_addBatch_58 ?_
  refine lv_iconst (v := 1) hx hb dX3_addBatch_61 (by decide) ?_
  refine lv_iadd hx hb dX3_addBatch_62 ?_
  refine z_putI C Y (Cn := RX3) (T := TX3) (N := 9) in_X3_addBatch_3 rfl tyX3 tyX3_ok nmX3 (ge3_3 ..) 7 (by decide) fl_X3_addBatch_41 rfl (by decide +kernel) (Nat.le_of_ble_eq_true rfl) (si3_3_7 ..) dX3_addBatch_63 (fun H locs Y => ?_)
  obtain ⟨u3_10, eu3_10, Y, hv⟩ := z_nm (kf := fun z => (k3 a cI cZ z)) Y hv
  refine lv_iload hx hb dX3_addBatch_66 (lv_at hl 0 rfl) ?_
  exact hret Y hv dX3_addBatch_68

end
abbrev TX3_addBatch := wp_X3_addBatch_0
set_option maxHeartbeats 4000000 in
set_option maxRecDepth 100000 in
theorem c_X3_addBatch (l : Launch) {D : va_G} {cI cZ cJ : ClassId} {a : Nat → Nat → Nat} {Q1 : Int32 → zSt → Prop} {p1 : Int32} {p2 : Int32} {p3 : Int32} {p4 : Int32} {u3 : zSt} (hv : wp_X3_addBatch_0 Q1 p1 p2 p3 p4 u3) : zMI l yX3_addBatch wsX3_addBatch ({ frames := 1, cells := 0, slots := 0, locals := 22 } : Room) D cI cZ cJ [.ref (a 3 99), .int p1, .int p2, .int p3, .int p4] (k3 a cI cZ u3) (fun u : zSt => k3 a cI cZ u) Q1 :=
  z_ofI (by decide) rfl rfl (Nat.le_of_ble_eq_true rfl) (fun C Y hl hret => bk_X3_addBatch_0 C Y hl hret hv)


theorem in_X3_batchesOf_3 : ∀ w ∈ wsX30, w ∈ wsX3_batchesOf := by first | exact fun w h => List.mem_cons_of_mem _ (List.mem_append_right _ h) | exact fun w h => List.mem_cons_of_mem _ (List.mem_append_left _ (List.mem_append_right _ h)) | decide +kernel
theorem fl_X3_batchesOf_27 : Cond.fieldLink RX3 27 (TX3 6).1 (TX3 6).2.1 (TX3 6).2.2.1 ∈ wsX3_batchesOf := by decide +kernel
theorem fl_X3_batchesOf_41 : Cond.fieldLink RX3 41 (TX3 7).1 (TX3 7).2.1 (TX3 7).2.2.1 ∈ wsX3_batchesOf := by decide +kernel
section
variable {p : Program} {l : Launch} {e : Env} {s : State} {m : MethodId} {args : Array Value} {below : List Frame} {meth : Method} {c : Code} {H : Heap} {locs : List Loc} {Q : State → Prop} {D : va_G} {cI cZ cJ : ClassId} {A : Nat → Prop} {ls : Array Slot}
def wp_X3_batchesOf_0 (J6 : Int32 → Int64 → Int32 → Int32 → zSt → Prop) (Q1 : Int32 → zSt → Prop) (p1 : Int32) (p2 : Int64) (u3 : zSt) : Prop :=
  ∀ x4_1 : Int32, x4_1 = 0 → ∀ x5_2 : Int32, x5_2 = 0 → J6 p1 p2 x4_1 x5_2 u3

set_option maxHeartbeats 4000000 in
set_option maxRecDepth 100000 in
theorem bk_X3_batchesOf_0 {a : Nat → Nat → Nat} {J6 : Int32 → Int64 → Int32 → Int32 → zSt → Prop} {Q1 : Int32 → zSt → Prop} {p1 : Int32} {p2 : Int64} {u3 : zSt} (C : zCx p s m args c cX3_batchesOf 6 RX3 wsX3_batchesOf D cI cZ cJ A) (Y : zDy D A s.heap (k3 a cI cZ u3) H locs) (hl : lv_has ls 6 [(0, .ref (a 3 99)), (1, .int p1), (2, .long p2)]) (hret : ∀ {pc : Nat} {H : Heap} {locs : List Loc} {ls : Array Slot} {r : Int32} {u : zSt}, zDy D A s.heap ((fun u : zSt => k3 a cI cZ u) u) H locs → Q1 r u → decode cX3_batchesOf pc = .ok (.ireturn, 1) → W p l e ({ frames := 0, cells := 0, slots := 0, locals := 0 } : Room) s m args below meth c H locs 0 0 Q (F0 m pc ls [.int r])) (hJ6 : ∀ (x1 : Int32) (x2 : Int64) (x4 : Int32) (x5 : Int32) (u3 : zSt) (H : Heap) (locs : List Loc) (ls : Array Slot), J6 x1 x2 x4 x5 u3 → zDy D A s.heap (k3 a cI cZ u3) H locs → lv_has ls 6 [(0, .ref (a 3 99)), (1, .int x1), (2, .long x2), (4, .int x4), (5, .int x5)] → W p l e ({ frames := 0, cells := 0, slots := 0, locals := 0 } : Room) s m args below meth c H locs 0 0 Q (F0 m 6 ls [])) (hv : wp_X3_batchesOf_0 J6 Q1 p1 p2 u3) : W p l e ({ frames := 0, cells := 0, slots := 0, locals := 0 } : Room) s m args below meth c H locs 0 0 Q (F0 m 0 ls []) := by
  unfold wp_X3_batchesOf_0 at hv
  obtain ⟨hx, hb, hml, hown, hts, hK, hA⟩ := id C
  refine lv_iconst (v := 0) hx hb dX3_batchesOf_0 (by decide) ?_
  refine z_topi hv (fun x4_1 ex4_1 hv => ?_)
  refine lv_istore (lv' := [(4, .int x4_1), (0, .ref (a 3 99)), (1, .int p1), (2, .long p2)]) hx hb dX3_batchesOf_1 hl (by decide) rfl (fun ls hl => ?_)
  refine lv_iconst (v := 0) hx hb dX3_batchesOf_3 (by decide) ?_
  refine z_topi hv (fun x5_2 ex5_2 hv => ?_)
  refine lv_istore (lv' := [(5, .int x5_2), (4, .int x4_1), (0, .ref (a 3 99)), (1, .int p1), (2, .long p2)]) hx hb dX3_batchesOf_4 hl (by decide) rfl (fun ls hl => ?_)
  exact hJ6 _ _ _ _ _ _ _ _ hv Y (lv_sub hl [2, 3, 4, 1, 0] rfl)

def wp_X3_batchesOf_6 (J6 : Int32 → Int64 → Int32 → Int32 → zSt → Prop) (Q1 : Int32 → zSt → Prop) (x1 : Int32) (x2 : Int64) (x4 : Int32) (x5 : Int32) (u3 : zSt) : Prop :=
  ((u3.1 7) ≤ x5 → Q1 x4 u3) ∧ (¬ (u3.1 7) ≤ x5 → ((lg_cmp (((x2 : Int64) >>> ((x5 : Int32).toInt64 &&& 63)) &&& (1 : Int64)) (0 : Int64)) = (0 : Int32) → ∀ x5_1 : Int32, x5_1 = x5 + 1 → J6 x1 x2 x4 x5_1 u3) ∧ (¬ (lg_cmp (((x2 : Int64) >>> ((x5 : Int32).toInt64 &&& 63)) &&& (1 : Int64)) (0 : Int64)) = (0 : Int32) → vp_in x5 60 ∧ ((((((u3.2 6 x5.toNatClampNeg) : Int32) >>> ((x1 : Int32) &&& 31)) &&& 1) = (0 : Int32) → ∀ x5_2 : Int32, x5_2 = x5 + 1 → J6 x1 x2 x4 x5_2 u3) ∧ (¬ ((((u3.2 6 x5.toNatClampNeg) : Int32) >>> ((x1 : Int32) &&& 31)) &&& 1) = (0 : Int32) → ∀ x4_3 : Int32, x4_3 = x4 + 1 → ∀ x5_4 : Int32, x5_4 = x5 + 1 → J6 x1 x2 x4_3 x5_4 u3))))

set_option maxHeartbeats 4000000 in
set_option maxRecDepth 100000 in
theorem bk_X3_batchesOf_6 {a : Nat → Nat → Nat} {J6 : Int32 → Int64 → Int32 → Int32 → zSt → Prop} {Q1 : Int32 → zSt → Prop} {x1 : Int32} {x2 : Int64} {x4 : Int32} {x5 : Int32} {u3 : zSt} (C : zCx p s m args c cX3_batchesOf 6 RX3 wsX3_batchesOf D cI cZ cJ A) (Y : zDy D A s.heap (k3 a cI cZ u3) H locs) (hl : lv_has ls 6 [(0, .ref (a 3 99)), (1, .int x1), (2, .long x2), (4, .int x4), (5, .int x5)]) (hret : ∀ {pc : Nat} {H : Heap} {locs : List Loc} {ls : Array Slot} {r : Int32} {u : zSt}, zDy D A s.heap ((fun u : zSt => k3 a cI cZ u) u) H locs → Q1 r u → decode cX3_batchesOf pc = .ok (.ireturn, 1) → W p l e ({ frames := 0, cells := 0, slots := 0, locals := 0 } : Room) s m args below meth c H locs 0 0 Q (F0 m pc ls [.int r])) (hJ6 : ∀ (x1 : Int32) (x2 : Int64) (x4 : Int32) (x5 : Int32) (u3 : zSt) (H : Heap) (locs : List Loc) (ls : Array Slot), J6 x1 x2 x4 x5 u3 → zDy D A s.heap (k3 a cI cZ u3) H locs → lv_has ls 6 [(0, .ref (a 3 99)), (1, .int x1), (2, .long x2), (4, .int x4), (5, .int x5)] → W p l e ({ frames := 0, cells := 0, slots := 0, locals := 0 } : Room) s m args below meth c H locs 0 0 Q (F0 m 6 ls [])) (hv : wp_X3_batchesOf_6 J6 Q1 x1 x2 x4 x5 u3) : W p l e ({ frames := 0, cells := 0, slots := 0, locals := 0 } : Room) s m args below meth c H locs 0 0 Q (F0 m 6 ls []) := by
  unfold wp_X3_batchesOf_6 at hv
  obtain ⟨hx, hb, hml, hown, hts, hK, hA⟩ := id C
  refine lv_iload hx hb dX3_batchesOf_6 (lv_at hl 4 rfl) ?_
  refine lv_aload_n hx hb dX3_batchesOf_8 rfl (lv_at hl 0 rfl) ?_
  refine z_get C Y (Cn := RX3) (T := TX3) (N := 9) in_X3_batchesOf_3 rfl (ge3_3 ..) 7 (by decide) fl_X3_batchesOf_41 rfl dX3_batchesOf_9 ?_
  refine lv_icmp_ge (tgt := 49) hx hb dX3_batchesOf_12 (by decide) (fun hc => ?_) (fun hc => ?_)
  · have hv := hv.1 hc
    refine lv_iload hx hb dX3_batchesOf_49 (lv_at hl 3 rfl) ?_
    exact hret Y hv dX3_batchesOf_51
  · have hv := hv.2 hc
    refine lv_lload_n hx hb dX3_batchesOf_15 rfl (lv_at hl 2 rfl) ?_
    refine lv_iload hx hb dX3_batchesOf_16 (lv_at hl 4 rfl) ?_
    refine lv_lshr hx hb dX3_batchesOf_18 rfl ?_
    refine lv_lconst (v := 1) hx hb dX3_batchesOf_19 (by decide) ?_
    refine lv_land hx hb dX3_batchesOf_20 ?_
    refine lv_lconst (v := 0) hx hb dX3_batchesOf_21 (by decide) ?_
    refine W.lcmp hx hb dX3_batchesOf_22 ?_
    refine lv_if_eq (tgt := 43) hx hb dX3_batchesOf_23 (by decide) (fun hc => ?_) (fun hc => ?_)
    · have hv := hv.1 hc
      obtain ⟨x5_1, ex5_1, hv⟩ := z_nv hv
      refine lv_iinc (v := x5_1) (lv' := [(5, .int x5_1), (0, .ref (a 3 99)), (1, .int x1), (2, .long x2), (4, .int x4)]) hx hb dX3_batchesOf_43 hl (k := 4) rfl (by rw [ex5_1]; rfl) (by decide) rfl (fun ls hl => ?_)
      refine lv_goto (tgt := 6) hx hb dX3_batchesOf_46 (by decide) ?_
      exact hJ6 _ _ _ _ _ _ _ _ hv Y (lv_sub hl [1, 2, 3, 4, 0] rfl)
    · have hv := hv.2 hc
      refine lv_aload_n hx hb dX3_batchesOf_26 rfl (lv_at hl 0 rfl) ?_
      refine z_get C Y (Cn := RX3) (T := TX3) (N := 9) in_X3_batchesOf_3 rfl (ge3_3 ..) 6 (by decide) fl_X3_batchesOf_27 rfl dX3_batchesOf_27 ?_
      refine lv_iload hx hb dX3_batchesOf_30 (lv_at hl 4 rfl) ?_
      obtain ⟨hi, hv⟩ := hv
      refine z_ldI C Y (pa3_3_6 ..) hi dX3_batchesOf_32 ?_
      refine lv_iload_n hx hb dX3_batchesOf_33 rfl (lv_at hl 1 rfl) ?_
      refine lv_ishr hx hb dX3_batchesOf_34 ?_
      refine lv_iconst (v := 1) hx hb dX3_batchesOf_35 (by decide) ?_
      refine lv_iand hx hb dX3_batchesOf_36 ?_
      refine lv_if_eq (tgt := 43) hx hb dX3_batchesOf_37 (by decide) (fun hc => ?_) (fun hc => ?_)
      · have hv := hv.1 hc
        obtain ⟨x5_2, ex5_2, hv⟩ := z_nv hv
        refine lv_iinc (v := x5_2) (lv' := [(5, .int x5_2), (0, .ref (a 3 99)), (1, .int x1), (2, .long x2), (4, .int x4)]) hx hb dX3_batchesOf_43 hl (k := 4) rfl (by rw [ex5_2]; rfl) (by decide) rfl (fun ls hl => ?_)
        refine lv_goto (tgt := 6) hx hb dX3_batchesOf_46 (by decide) ?_
        exact hJ6 _ _ _ _ _ _ _ _ hv Y (lv_sub hl [1, 2, 3, 4, 0] rfl)
      · have hv := hv.2 hc
        obtain ⟨x4_3, ex4_3, hv⟩ := z_nv hv
        refine lv_iinc (v := x4_3) (lv' := [(4, .int x4_3), (0, .ref (a 3 99)), (1, .int x1), (2, .long x2), (5, .int x5)]) hx hb dX3_batchesOf_40 hl (k := 3) rfl (by rw [ex4_3]; rfl) (by decide) rfl (fun ls hl => ?_)
        obtain ⟨x5_4, ex5_4, hv⟩ := z_nv hv
        refine lv_iinc (v := x5_4) (lv' := [(5, .int x5_4), (4, .int x4_3), (0, .ref (a 3 99)), (1, .int x1), (2, .long x2)]) hx hb dX3_batchesOf_43 hl (k := 4) rfl (by rw [ex5_4]; rfl) (by decide) rfl (fun ls hl => ?_)
        refine lv_goto (tgt := 6) hx hb dX3_batchesOf_46 (by decide) ?_
        exact hJ6 _ _ _ _ _ _ _ _ hv Y (lv_sub hl [2, 3, 4, 1, 0] rfl)

end
set_option maxHeartbeats 4000000 in
set_option maxRecDepth 100000 in
theorem k_X3_batchesOf (l : Launch) {D : va_G} {cI cZ cJ : ClassId} {a : Nat → Nat → Nat} {Q1 : Int32 → zSt → Prop} {p1 : Int32} {p2 : Int64} {u3 : zSt} (I6 : Nat → Int32 → Int64 → Int32 → Int32 → zSt → Prop)
    (hv : wp_X3_batchesOf_0 (fun x1 x2 x4 x5 u3 => ∃ n : Nat, I6 n x1 x2 x4 x5 u3) Q1 p1 p2 u3)
    (hI6 : ∀ (n : Nat) (x1 : Int32) (x2 : Int64) (x4 : Int32) (x5 : Int32) (u3 : zSt), I6 n x1 x2 x4 x5 u3 → wp_X3_batchesOf_6 (fun x1 x2 x4 x5 u3 => ∃ k : Nat, k < n ∧ I6 k x1 x2 x4 x5 u3) Q1 x1 x2 x4 x5 u3) : zMI l yX3_batchesOf wsX3_batchesOf ({ frames := 0, cells := 0, slots := 0, locals := 0 } : Room) D cI cZ cJ [.ref (a 3 99), .int p1, .long p2] (k3 a cI cZ u3) (fun u : zSt => k3 a cI cZ u) Q1 := by
  refine z_ofI (by decide) rfl rfl (Nat.le_of_ble_eq_true rfl) (@fun p e s m args below meth c A Q ls C Y hl hret => ?_)
  have key : ∀ n : Nat, (∀ (x1 : Int32) (x2 : Int64) (x4 : Int32) (x5 : Int32) (u3 : zSt) (H : Heap) (locs : List Loc) (ls : Array Slot), I6 n x1 x2 x4 x5 u3 → zDy D A s.heap (k3 a cI cZ u3) H locs → lv_has ls 6 [(0, .ref (a 3 99)), (1, .int x1), (2, .long x2), (4, .int x4), (5, .int x5)] → W p l e ({ frames := 0, cells := 0, slots := 0, locals := 0 } : Room) s m args below meth c H locs 0 0 Q (F0 m 6 ls [])) := by
    intro n
    induction n using Nat.strongRecOn with
    | _ n ih =>
      exact fun x1 x2 x4 x5 u3 H locs ls hi Y hl => bk_X3_batchesOf_6 C Y hl hret (fun y0 y1 y2 y3 y4 H locs ls hi Y hl => by obtain ⟨k, hk, hi⟩ := hi; exact (ih k hk) y0 y1 y2 y3 y4 H locs ls hi Y hl) (hI6 n x1 x2 x4 x5 u3 hi)
  exact bk_X3_batchesOf_0 C Y hl hret (fun y0 y1 y2 y3 y4 H locs ls hi Y hl => by obtain ⟨n, hi⟩ := hi; exact (key n) y0 y1 y2 y3 y4 H locs ls hi Y hl) hv
def TX3_batchesOf (Q1 : Int32 → zSt → Prop) (p1 : Int32) (p2 : Int64) (u3 : zSt) : Prop :=
  ∃ I6 : Nat → Int32 → Int64 → Int32 → Int32 → zSt → Prop, (wp_X3_batchesOf_0 (fun x1 x2 x4 x5 u3 => ∃ n : Nat, I6 n x1 x2 x4 x5 u3) Q1 p1 p2 u3) ∧ (∀ (n : Nat) (x1 : Int32) (x2 : Int64) (x4 : Int32) (x5 : Int32) (u3 : zSt), I6 n x1 x2 x4 x5 u3 → wp_X3_batchesOf_6 (fun x1 x2 x4 x5 u3 => ∃ k : Nat, k < n ∧ I6 k x1 x2 x4 x5 u3) Q1 x1 x2 x4 x5 u3)
set_option maxHeartbeats 4000000 in
set_option maxRecDepth 100000 in
theorem c_X3_batchesOf (l : Launch) {D : va_G} {cI cZ cJ : ClassId} {a : Nat → Nat → Nat} {Q1 : Int32 → zSt → Prop} {p1 : Int32} {p2 : Int64} {u3 : zSt} (hv : TX3_batchesOf Q1 p1 p2 u3) : zMI l yX3_batchesOf wsX3_batchesOf ({ frames := 0, cells := 0, slots := 0, locals := 0 } : Room) D cI cZ cJ [.ref (a 3 99), .int p1, .long p2] (k3 a cI cZ u3) (fun u : zSt => k3 a cI cZ u) Q1 := by
  obtain ⟨I6, hv, hI6⟩ := hv
  exact k_X3_batchesOf l I6 hv hI6


