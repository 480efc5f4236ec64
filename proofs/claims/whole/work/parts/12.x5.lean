theorem in_X5_add_5 : ∀ w ∈ wsX50, w ∈ wsX5_add := by first | exact fun w h => List.mem_cons_of_mem _ (List.mem_append_right _ h) | exact fun w h => List.mem_cons_of_mem _ (List.mem_append_left _ (List.mem_append_right _ h)) | decide +kernel
theorem fl_X5_add_9 : Cond.fieldLink RX5 9 (TX5 0).1 (TX5 0).2.1 (TX5 0).2.2.1 ∈ wsX5_add := by decide +kernel
theorem fl_X5_add_15 : Cond.fieldLink RX5 15 (TX5 1).1 (TX5 1).2.1 (TX5 1).2.2.1 ∈ wsX5_add := by decide +kernel
theorem fl_X5_add_19 : Cond.fieldLink RX5 19 (TX5 2).1 (TX5 2).2.1 (TX5 2).2.2.1 ∈ wsX5_add := by decide +kernel
theorem fl_X5_add_22 : Cond.fieldLink RX5 22 (TX5 3).1 (TX5 3).2.1 (TX5 3).2.2.1 ∈ wsX5_add := by decide +kernel
theorem fl_X5_add_25 : Cond.fieldLink RX5 25 (TX5 4).1 (TX5 4).2.1 (TX5 4).2.2.1 ∈ wsX5_add := by decide +kernel
theorem fl_X5_add_29 : Cond.fieldLink RX5 29 (TX5 5).1 (TX5 5).2.1 (TX5 5).2.2.1 ∈ wsX5_add := by decide +kernel
section
variable {p : Program} {l : Launch} {e : Env} {s : State} {m : MethodId} {args : Array Value} {below : List Frame} {meth : Method} {c : Code} {H : Heap} {locs : List Loc} {Q : State → Prop} {D : va_G} {cI cZ cJ : ClassId} {A : Nat → Prop} {ls : Array Slot}
def wp_X5_add_0 (Q1 : Int32 → zSt → Prop) (p1 : Int32) (p2 : Int32) (u5 : zSt) : Prop :=
  ∀ x3_1 : Int32, x3_1 = (u5.1 4) → vp_in x3_1 100 ∧ (∀ u5_2 : zSt, u5_2 = zA u5 0 (upd (u5.2 0) x3_1.toNatClampNeg p1) → vp_in x3_1 100 ∧ (∀ u5_3 : zSt, u5_3 = zA u5_2 1 (upd (u5_2.2 1) x3_1.toNatClampNeg (vp_nar .boolean p2)) → vp_in x3_1 100 ∧ (∀ u5_4 : zSt, u5_4 = zA u5_3 2 (upd (u5_3.2 2) x3_1.toNatClampNeg (u5_3.1 5)) → vp_in x3_1 100 ∧ (∀ u5_5 : zSt, u5_5 = zA u5_4 3 (upd (u5_4.2 3) x3_1.toNatClampNeg (-1)) → ∀ u5_6 : zSt, u5_6 = zI u5_5 4 ((u5_5.1 4) + 1) → Q1 x3_1 u5_6))))

set_option maxHeartbeats 4000000 in
set_option maxRecDepth 100000 in
theorem bk_X5_add_0 {a : Nat → Nat → Nat} {Q1 : Int32 → zSt → Prop} {p1 : Int32} {p2 : Int32} {u5 : zSt} (C : zCx p s m args c cX5_add 4 RX5 wsX5_add D cI cZ cJ A) (Y : zDy D A s.heap (k5 a cI cZ u5) H locs) (hl : lv_has ls 4 [(0, .ref (a 5 99)), (1, .int p1), (2, .int p2)]) (hret : ∀ {pc : Nat} {H : Heap} {locs : List Loc} {ls : Array Slot} {r : Int32} {u : zSt}, zDy D A s.heap ((fun u : zSt => k5 a cI cZ u) u) H locs → Q1 r u → decode cX5_add pc = .ok (.ireturn, 1) → W p l e ({ frames := 0, cells := 0, slots := 0, locals := 0 } : Room) s m args below meth c H locs 0 0 Q (F0 m pc ls [.int r])) (hv : wp_X5_add_0 Q1 p1 p2 u5) : W p l e ({ frames := 0, cells := 0, slots := 0, locals := 0 } : Room) s m args below meth c H locs 0 0 Q (F0 m 0 ls []) := by
  unfold wp_X5_add_0 at hv
  obtain ⟨hx, hb, hml, hown, hts, hK, hA⟩ := id C
  refine lv_aload_n hx hb dX5_add_0 rfl (lv_at hl 0 rfl) ?_
  refine z_get C Y (Cn := RX5) (T := TX5) (N := 6) in_X5_add_5 rfl (ge5_5 ..) 4 (by decide) fl_X5_add_25 rfl dX5_add_1 ?_
  refine z_topi hv (fun x3_1 ex3_1 hv => ?_)
  refine lv_istore_n (lv' := [(3, .int x3_1), (0, .ref (a 5 99)), (1, .int p1), (2, .int p2)]) hx hb dX5_add_4 rfl hl (by decide) rfl (fun ls hl => ?_)
  refine lv_aload_n hx hb dX5_add_5 rfl (lv_at hl 1 rfl) ?_
  refine z_get C Y (Cn := RX5) (T := TX5) (N := 6) in_X5_add_5 rfl (ge5_5 ..) 0 (by decide) fl_X5_add_9 rfl dX5_add_6 ?_
  refine lv_iload_n hx hb dX5_add_9 rfl (lv_at hl 0 rfl) ?_
  refine lv_iload_n hx hb dX5_add_10 rfl (lv_at hl 2 rfl) ?_
  obtain ⟨hi, hv⟩ := hv
  refine z_stI C Y (pa5_5_0 ..) (sa5_5_0 ..) hi dX5_add_11 (fun H locs Y => ?_)
  obtain ⟨u5_2, eu5_2, Y, hv⟩ := z_nm (kf := fun z => (k5 a cI cZ z)) Y hv
  refine lv_aload_n hx hb dX5_add_12 rfl (lv_at hl 1 rfl) ?_
  refine z_get C Y (Cn := RX5) (T := TX5) (N := 6) in_X5_add_5 rfl (ge5_5 ..) 1 (by decide) fl_X5_add_15 rfl dX5_add_13 ?_
  refine lv_iload_n hx hb dX5_add_16 rfl (lv_at hl 0 rfl) ?_
  refine lv_iload_n hx hb dX5_add_17 rfl (lv_at hl 3 rfl) ?_
  obtain ⟨hi, hv⟩ := hv
  refine z_stZ C Y (pa5_5_1 ..) (sa5_5_1 ..) hi dX5_add_18 (fun H locs Y => ?_)
  obtain ⟨u5_3, eu5_3, Y, hv⟩ := z_nm (kf := fun z => (k5 a cI cZ z)) Y hv
  refine lv_aload_n hx hb dX5_add_19 rfl (lv_at hl 1 rfl) ?_
  refine z_get C Y (Cn := RX5) (T := TX5) (N := 6) in_X5_add_5 rfl (ge5_5 ..) 2 (by decide) fl_X5_add_19 rfl dX5_add_20 ?_
  refine lv_iload_n hx hb dX5_add_23 rfl (lv_at hl 0 rfl) ?_
  refine lv_aload_n hx hb dX5_add_24 rfl (lv_at hl 1 rfl) ?_
  refine z_get C Y (Cn := RX5) (T := TX5) (N := 6) in_X5_add_5 rfl (ge5_5 ..) 5 (by decide) fl_X5_add_29 rfl dX5_add_25 ?_
  obtain ⟨hi, hv⟩ := hv
  refine z_stI C Y (pa5_5_2 ..) (sa5_5_2 ..) hi dX5_add_28 (fun H locs Y => ?_)
  obtain ⟨u5_4, eu5_4, Y, hv⟩ := z_nm (kf := fun z => (k5 a cI cZ z)) Y hv
  refine lv_aload_n hx hb dX5_add_29 rfl (lv_at hl 1 rfl) ?_
  refine z_get C Y (Cn := RX5) (T := TX5) (N := 6) in_X5_add_5 rfl (ge5_5 ..) 3 (by decide) fl_X5_add_22 rfl dX5_add_30 ?_
  refine lv_iload_n hx hb dX5_add_33 rfl (lv_at hl 0 rfl) ?_
  refine lv_iconst (v := (-1)) hx hb dX5_add_34 (by decide) ?_
  obtain ⟨hi, hv⟩ := hv
  refine z_stI C Y (pa5_5_3 ..) (sa5_5_3 ..) hi dX5_add_35 (fun H locs Y => ?_)
  obtain ⟨u5_5, eu5_5, Y, hv⟩ := z_nm (kf := fun z => (k5 a cI cZ z)) Y hv
  refine lv_aload_n hx hb dX5_add_36 rfl (lv_at hl 1 rfl) ?_
  refine lv_dup hx hb dX5_add_37 rfl ?_
  refine z_get C Y (Cn := RX5) (T := TX5) (N := 6) in_X5_add_5 rfl (ge5_5 ..) 4 (by decide) fl_X5_add_25 rfl dX5_add_38 ?_
  refine lv_iconst (v := 1) hx hb dX5_add_41 (by decide) ?_
  refine lv_iadd hx hb dX5_add_42 ?_
  refine z_putI C Y (Cn := RX5) (T := TX5) (N := 6) in_X5_add_5 rfl tyX5 tyX5_ok nmX5 (ge5_5 ..) 4 (by decide) fl_X5_add_25 rfl (by decide +kernel) (Nat.le_of_ble_eq_true rfl) (si5_5_4 ..) dX5_add_43 (fun H locs Y => ?_)
  obtain ⟨u5_6, eu5_6, Y, hv⟩ := z_nm (kf := fun z => (k5 a cI cZ z)) Y hv
  refine lv_iload_n hx hb dX5_add_46 rfl (lv_at hl 0 rfl) ?_
  exact hret Y hv dX5_add_47

end
abbrev TX5_add := wp_X5_add_0
set_option maxHeartbeats 4000000 in
set_option maxRecDepth 100000 in
theorem c_X5_add (l : Launch) {D : va_G} {cI cZ cJ : ClassId} {a : Nat → Nat → Nat} {Q1 : Int32 → zSt → Prop} {p1 : Int32} {p2 : Int32} {u5 : zSt} (hv : wp_X5_add_0 Q1 p1 p2 u5) : zMI l yX5_add wsX5_add ({ frames := 0, cells := 0, slots := 0, locals := 0 } : Room) D cI cZ cJ [.ref (a 5 99), .int p1, .int p2] (k5 a cI cZ u5) (fun u : zSt => k5 a cI cZ u) Q1 :=
  z_ofI (by decide) rfl rfl (Nat.le_of_ble_eq_true rfl) (fun C Y hl hret => bk_X5_add_0 C Y hl hret hv)


theorem in_X5_takeBack_5 : ∀ w ∈ wsX50, w ∈ wsX5_takeBack := by first | exact fun w h => List.mem_cons_of_mem _ (List.mem_append_right _ h) | exact fun w h => List.mem_cons_of_mem _ (List.mem_append_left _ (List.mem_append_right _ h)) | decide +kernel
theorem fl_X5_takeBack_22 : Cond.fieldLink RX5 22 (TX5 3).1 (TX5 3).2.1 (TX5 3).2.2.1 ∈ wsX5_takeBack := by decide +kernel
theorem fl_X5_takeBack_29 : Cond.fieldLink RX5 29 (TX5 5).1 (TX5 5).2.1 (TX5 5).2.2.1 ∈ wsX5_takeBack := by decide +kernel
section
variable {p : Program} {l : Launch} {e : Env} {s : State} {m : MethodId} {args : Array Value} {below : List Frame} {meth : Method} {c : Code} {H : Heap} {locs : List Loc} {Q : State → Prop} {D : va_G} {cI cZ cJ : ClassId} {A : Nat → Prop} {ls : Array Slot}
def wp_X5_takeBack_0 (Q1 : Int32 → zSt → Prop) (p1 : Int32) (u5 : zSt) : Prop :=
  vp_in p1 100 ∧ (((u5.2 3 p1.toNatClampNeg) = (-1 : Int32) → vp_in p1 100 ∧ (∀ u5_1 : zSt, u5_1 = zA u5 3 (upd (u5.2 3) p1.toNatClampNeg (u5.1 5)) → Q1 1 u5_1)) ∧ (¬ (u5.2 3 p1.toNatClampNeg) = (-1 : Int32) → Q1 0 u5))

set_option maxHeartbeats 4000000 in
set_option maxRecDepth 100000 in
theorem bk_X5_takeBack_0 {a : Nat → Nat → Nat} {Q1 : Int32 → zSt → Prop} {p1 : Int32} {u5 : zSt} (C : zCx p s m args c cX5_takeBack 2 RX5 wsX5_takeBack D cI cZ cJ A) (Y : zDy D A s.heap (k5 a cI cZ u5) H locs) (hl : lv_has ls 2 [(0, .ref (a 5 99)), (1, .int p1)]) (hret : ∀ {pc : Nat} {H : Heap} {locs : List Loc} {ls : Array Slot} {r : Int32} {u : zSt}, zDy D A s.heap ((fun u : zSt => k5 a cI cZ u) u) H locs → (r = 0 ∨ r = 1) → Q1 r u → decode cX5_takeBack pc = .ok (.ireturn, 1) → W p l e ({ frames := 0, cells := 0, slots := 0, locals := 0 } : Room) s m args below meth c H locs 0 0 Q (F0 m pc ls [.int r])) (hv : wp_X5_takeBack_0 Q1 p1 u5) : W p l e ({ frames := 0, cells := 0, slots := 0, locals := 0 } : Room) s m args below meth c H locs 0 0 Q (F0 m 0 ls []) := by
  unfold wp_X5_takeBack_0 at hv
  obtain ⟨hx, hb, hml, hown, hts, hK, hA⟩ := id C
  refine lv_aload_n hx hb dX5_takeBack_0 rfl (lv_at hl 0 rfl) ?_
  refine z_get C Y (Cn := RX5) (T := TX5) (N := 6) in_X5_takeBack_5 rfl (ge5_5 ..) 3 (by decide) fl_X5_takeBack_22 rfl dX5_takeBack_1 ?_
  refine lv_iload_n hx hb dX5_takeBack_4 rfl (lv_at hl 1 rfl) ?_
  obtain ⟨hi, hv⟩ := hv
  refine z_ldI C Y (pa5_5_3 ..) hi dX5_takeBack_5 ?_
  refine lv_iconst (v := (-1)) hx hb dX5_takeBack_6 (by decide) ?_
  refine lv_icmp_eq (tgt := 12) hx hb dX5_takeBack_7 (by decide) (fun hc => ?_) (fun hc => ?_)
  · have hv := hv.1 hc
    refine lv_aload_n hx hb dX5_takeBack_12 rfl (lv_at hl 0 rfl) ?_
    refine z_get C Y (Cn := RX5) (T := TX5) (N := 6) in_X5_takeBack_5 rfl (ge5_5 ..) 3 (by decide) fl_X5_takeBack_22 rfl dX5_takeBack_13 ?_
    refine lv_iload_n hx hb dX5_takeBack_16 rfl (lv_at hl 1 rfl) ?_
    refine lv_aload_n hx hb dX5_takeBack_17 rfl (lv_at hl 0 rfl) ?_
    refine z_get C Y (Cn := RX5) (T := TX5) (N := 6) in_X5_takeBack_5 rfl (ge5_5 ..) 5 (by decide) fl_X5_takeBack_29 rfl dX5_takeBack_18 ?_
    obtain ⟨hi, hv⟩ := hv
    refine z_stI C Y (pa5_5_3 ..) (sa5_5_3 ..) hi dX5_takeBack_21 (fun H locs Y => ?_)
    obtain ⟨u5_1, eu5_1, Y, hv⟩ := z_nm (kf := fun z => (k5 a cI cZ z)) Y hv
    refine lv_iconst (v := 1) hx hb dX5_takeBack_22 (by decide) ?_
    exact hret Y (Or.inr rfl) hv dX5_takeBack_23
  · have hv := hv.2 hc
    refine lv_iconst (v := 0) hx hb dX5_takeBack_10 (by decide) ?_
    exact hret Y (Or.inl rfl) hv dX5_takeBack_11

end
abbrev TX5_takeBack := wp_X5_takeBack_0
set_option maxHeartbeats 4000000 in
set_option maxRecDepth 100000 in
theorem c_X5_takeBack (l : Launch) {D : va_G} {cI cZ cJ : ClassId} {a : Nat → Nat → Nat} {Q1 : Int32 → zSt → Prop} {p1 : Int32} {u5 : zSt} (hv : wp_X5_takeBack_0 Q1 p1 u5) : zMI l yX5_takeBack wsX5_takeBack ({ frames := 0, cells := 0, slots := 0, locals := 0 } : Room) D cI cZ cJ [.ref (a 5 99), .int p1] (k5 a cI cZ u5) (fun u : zSt => k5 a cI cZ u) Q1 :=
  z_ofZ (by decide) rfl rfl (Nat.le_of_ble_eq_true rfl) (fun C Y hl hret => bk_X5_takeBack_0 C Y hl hret hv)


theorem in_X5_isKnown_5 : ∀ w ∈ wsX50, w ∈ wsX5_isKnown := by first | exact fun w h => List.mem_cons_of_mem _ (List.mem_append_right _ h) | exact fun w h => List.mem_cons_of_mem _ (List.mem_append_left _ (List.mem_append_right _ h)) | decide +kernel
theorem fl_X5_isKnown_19 : Cond.fieldLink RX5 19 (TX5 2).1 (TX5 2).2.1 (TX5 2).2.2.1 ∈ wsX5_isKnown := by decide +kernel
theorem fl_X5_isKnown_22 : Cond.fieldLink RX5 22 (TX5 3).1 (TX5 3).2.1 (TX5 3).2.2.1 ∈ wsX5_isKnown := by decide +kernel
section
variable {p : Program} {l : Launch} {e : Env} {s : State} {m : MethodId} {args : Array Value} {below : List Frame} {meth : Method} {c : Code} {H : Heap} {locs : List Loc} {Q : State → Prop} {D : va_G} {cI cZ cJ : ClassId} {A : Nat → Prop} {ls : Array Slot}
def wp_X5_isKnown_0 (Q1 : Int32 → zSt → Prop) (p1 : Int32) (p2 : Int32) (u5 : zSt) : Prop :=
  vp_in p1 100 ∧ ((p2 < (u5.2 2 p1.toNatClampNeg) → Q1 0 u5) ∧ (¬ p2 < (u5.2 2 p1.toNatClampNeg) → vp_in p1 100 ∧ (((u5.2 3 p1.toNatClampNeg) = (-1 : Int32) → Q1 1 u5) ∧ (¬ (u5.2 3 p1.toNatClampNeg) = (-1 : Int32) → vp_in p1 100 ∧ (((u5.2 3 p1.toNatClampNeg) ≤ p2 → Q1 0 u5) ∧ (¬ (u5.2 3 p1.toNatClampNeg) ≤ p2 → Q1 1 u5))))))

set_option maxHeartbeats 4000000 in
set_option maxRecDepth 100000 in
theorem bk_X5_isKnown_0 {a : Nat → Nat → Nat} {Q1 : Int32 → zSt → Prop} {p1 : Int32} {p2 : Int32} {u5 : zSt} (C : zCx p s m args c cX5_isKnown 3 RX5 wsX5_isKnown D cI cZ cJ A) (Y : zDy D A s.heap (k5 a cI cZ u5) H locs) (hl : lv_has ls 3 [(0, .ref (a 5 99)), (1, .int p1), (2, .int p2)]) (hret : ∀ {pc : Nat} {H : Heap} {locs : List Loc} {ls : Array Slot} {r : Int32} {u : zSt}, zDy D A s.heap ((fun u : zSt => k5 a cI cZ u) u) H locs → (r = 0 ∨ r = 1) → Q1 r u → decode cX5_isKnown pc = .ok (.ireturn, 1) → W p l e ({ frames := 0, cells := 0, slots := 0, locals := 0 } : Room) s m args below meth c H locs 0 0 Q (F0 m pc ls [.int r])) (hv : wp_X5_isKnown_0 Q1 p1 p2 u5) : W p l e ({ frames := 0, cells := 0, slots := 0, locals := 0 } : Room) s m args below meth c H locs 0 0 Q (F0 m 0 ls []) := by
  unfold wp_X5_isKnown_0 at hv
  obtain ⟨hx, hb, hml, hown, hts, hK, hA⟩ := id C
  refine lv_aload_n hx hb dX5_isKnown_0 rfl (lv_at hl 0 rfl) ?_
  refine z_get C Y (Cn := RX5) (T := TX5) (N := 6) in_X5_isKnown_5 rfl (ge5_5 ..) 2 (by decide) fl_X5_isKnown_19 rfl dX5_isKnown_1 ?_
  refine lv_iload_n hx hb dX5_isKnown_4 rfl (lv_at hl 1 rfl) ?_
  obtain ⟨hi, hv⟩ := hv
  refine z_ldI C Y (pa5_5_2 ..) hi dX5_isKnown_5 ?_
  refine lv_iload_n hx hb dX5_isKnown_6 rfl (lv_at hl 2 rfl) ?_
  refine lv_icmp_gt (tgt := 34) hx hb dX5_isKnown_7 (by decide) (fun hc => ?_) (fun hc => ?_)
  · have hv := hv.1 hc
    refine lv_iconst (v := 0) hx hb dX5_isKnown_34 (by decide) ?_
    exact hret Y (Or.inl rfl) hv dX5_isKnown_35
  · have hv := hv.2 hc
    refine lv_aload_n hx hb dX5_isKnown_10 rfl (lv_at hl 0 rfl) ?_
    refine z_get C Y (Cn := RX5) (T := TX5) (N := 6) in_X5_isKnown_5 rfl (ge5_5 ..) 3 (by decide) fl_X5_isKnown_22 rfl dX5_isKnown_11 ?_
    refine lv_iload_n hx hb dX5_isKnown_14 rfl (lv_at hl 1 rfl) ?_
    obtain ⟨hi, hv⟩ := hv
    refine z_ldI C Y (pa5_5_3 ..) hi dX5_isKnown_15 ?_
    refine lv_iconst (v := (-1)) hx hb dX5_isKnown_16 (by decide) ?_
    refine lv_icmp_eq (tgt := 30) hx hb dX5_isKnown_17 (by decide) (fun hc => ?_) (fun hc => ?_)
    · have hv := hv.1 hc
      refine lv_iconst (v := 1) hx hb dX5_isKnown_30 (by decide) ?_
      refine lv_goto (tgt := 35) hx hb dX5_isKnown_31 (by decide) ?_
      exact hret Y (Or.inr rfl) hv dX5_isKnown_35
    · have hv := hv.2 hc
      refine lv_iload_n hx hb dX5_isKnown_20 rfl (lv_at hl 2 rfl) ?_
      refine lv_aload_n hx hb dX5_isKnown_21 rfl (lv_at hl 0 rfl) ?_
      refine z_get C Y (Cn := RX5) (T := TX5) (N := 6) in_X5_isKnown_5 rfl (ge5_5 ..) 3 (by decide) fl_X5_isKnown_22 rfl dX5_isKnown_22 ?_
      refine lv_iload_n hx hb dX5_isKnown_25 rfl (lv_at hl 1 rfl) ?_
      obtain ⟨hi, hv⟩ := hv
      refine z_ldI C Y (pa5_5_3 ..) hi dX5_isKnown_26 ?_
      refine lv_icmp_ge (tgt := 34) hx hb dX5_isKnown_27 (by decide) (fun hc => ?_) (fun hc => ?_)
      · have hv := hv.1 hc
        refine lv_iconst (v := 0) hx hb dX5_isKnown_34 (by decide) ?_
        exact hret Y (Or.inl rfl) hv dX5_isKnown_35
      · have hv := hv.2 hc
        refine lv_iconst (v := 1) hx hb dX5_isKnown_30 (by decide) ?_
        refine lv_goto (tgt := 35) hx hb dX5_isKnown_31 (by decide) ?_
        exact hret Y (Or.inr rfl) hv dX5_isKnown_35

end
abbrev TX5_isKnown := wp_X5_isKnown_0
set_option maxHeartbeats 4000000 in
set_option maxRecDepth 100000 in
theorem c_X5_isKnown (l : Launch) {D : va_G} {cI cZ cJ : ClassId} {a : Nat → Nat → Nat} {Q1 : Int32 → zSt → Prop} {p1 : Int32} {p2 : Int32} {u5 : zSt} (hv : wp_X5_isKnown_0 Q1 p1 p2 u5) : zMI l yX5_isKnown wsX5_isKnown ({ frames := 0, cells := 0, slots := 0, locals := 0 } : Room) D cI cZ cJ [.ref (a 5 99), .int p1, .int p2] (k5 a cI cZ u5) (fun u : zSt => k5 a cI cZ u) Q1 :=
  z_ofZ (by decide) rfl rfl (Nat.le_of_ble_eq_true rfl) (fun C Y hl hret => bk_X5_isKnown_0 C Y hl hret hv)


theorem in_X5_batchesThat_5 : ∀ w ∈ wsX50, w ∈ wsX5_batchesThat := by first | exact fun w h => List.mem_cons_of_mem _ (List.mem_append_right _ h) | exact fun w h => List.mem_cons_of_mem _ (List.mem_append_left _ (List.mem_append_right _ h)) | decide +kernel
theorem fl_X5_batchesThat_9 : Cond.fieldLink RX5 9 (TX5 0).1 (TX5 0).2.1 (TX5 0).2.2.1 ∈ wsX5_batchesThat := by decide +kernel
theorem fl_X5_batchesThat_15 : Cond.fieldLink RX5 15 (TX5 1).1 (TX5 1).2.1 (TX5 1).2.2.1 ∈ wsX5_batchesThat := by decide +kernel
theorem fl_X5_batchesThat_25 : Cond.fieldLink RX5 25 (TX5 4).1 (TX5 4).2.1 (TX5 4).2.2.1 ∈ wsX5_batchesThat := by decide +kernel
section
variable {p : Program} {l : Launch} {e : Env} {s : State} {m : MethodId} {args : Array Value} {below : List Frame} {meth : Method} {c : Code} {H : Heap} {locs : List Loc} {Q : State → Prop} {D : va_G} {cI cZ cJ : ClassId} {A : Nat → Prop} {ls : Array Slot}
def wp_X5_batchesThat_0 (J5 : Int32 → Int32 → Int64 → Int32 → zSt → Prop) (Q1 : Int64 → zSt → Prop) (p1 : Int32) (p2 : Int32) (u5 : zSt) : Prop :=
  ∀ x3_1 : Int64, x3_1 = (0 : Int64) → ∀ x5_2 : Int32, x5_2 = 0 → J5 p1 p2 x3_1 x5_2 u5

set_option maxHeartbeats 4000000 in
set_option maxRecDepth 100000 in
theorem bk_X5_batchesThat_0 {a : Nat → Nat → Nat} {J5 : Int32 → Int32 → Int64 → Int32 → zSt → Prop} {Q1 : Int64 → zSt → Prop} {p1 : Int32} {p2 : Int32} {u5 : zSt} (C : zCx p s m args c cX5_batchesThat 6 RX5 wsX5_batchesThat D cI cZ cJ A) (Y : zDy D A s.heap (k5 a cI cZ u5) H locs) (hl : lv_has ls 6 [(0, .ref (a 5 99)), (1, .int p1), (2, .int p2)]) (hret : ∀ {pc : Nat} {H : Heap} {locs : List Loc} {ls : Array Slot} {r : Int64} {u : zSt}, zDy D A s.heap ((fun u : zSt => k5 a cI cZ u) u) H locs → Q1 r u → decode cX5_batchesThat pc = .ok (.lreturn, 1) → W p l e ({ frames := 1, cells := 0, slots := 0, locals := 22 } : Room) s m args below meth c H locs 0 0 Q (F0 m pc ls [.long r])) (hJ5 : ∀ (x1 : Int32) (x2 : Int32) (x3 : Int64) (x5 : Int32) (u5 : zSt) (H : Heap) (locs : List Loc) (ls : Array Slot), J5 x1 x2 x3 x5 u5 → zDy D A s.heap (k5 a cI cZ u5) H locs → lv_has ls 6 [(0, .ref (a 5 99)), (1, .int x1), (2, .int x2), (3, .long x3), (5, .int x5)] → W p l e ({ frames := 1, cells := 0, slots := 0, locals := 22 } : Room) s m args below meth c H locs 0 0 Q (F0 m 5 ls [])) (hv : wp_X5_batchesThat_0 J5 Q1 p1 p2 u5) : W p l e ({ frames := 1, cells := 0, slots := 0, locals := 22 } : Room) s m args below meth c H locs 0 0 Q (F0 m 0 ls []) := by
  unfold wp_X5_batchesThat_0 at hv
  obtain ⟨hx, hb, hml, hown, hts, hK, hA⟩ := id C
  refine lv_lconst (v := 0) hx hb dX5_batchesThat_0 (by decide) ?_
  refine z_topl hv (fun x3_1 ex3_1 hv => ?_)
  refine lv_lstore_n (lv' := [(3, .long x3_1), (0, .ref (a 5 99)), (1, .int p1), (2, .int p2)]) hx hb dX5_batchesThat_1 rfl hl (by decide) rfl (fun ls hl => ?_)
  refine lv_iconst (v := 0) hx hb dX5_batchesThat_2 (by decide) ?_
  refine z_topi hv (fun x5_2 ex5_2 hv => ?_)
  refine lv_istore (lv' := [(5, .int x5_2), (3, .long x3_1), (0, .ref (a 5 99)), (1, .int p1), (2, .int p2)]) hx hb dX5_batchesThat_3 hl (by decide) rfl (fun ls hl => ?_)
  exact hJ5 _ _ _ _ _ _ _ _ hv Y (lv_sub hl [2, 3, 4, 1, 0] rfl)

def wp_X5_batchesThat_5 (J5 : Int32 → Int32 → Int64 → Int32 → zSt → Prop) (Q1 : Int64 → zSt → Prop) (x1 : Int32) (x2 : Int32) (x3 : Int64) (x5 : Int32) (u5 : zSt) : Prop :=
  ((u5.1 4) ≤ x5 → Q1 x3 u5) ∧ (¬ (u5.1 4) ≤ x5 → vp_in x5 100 ∧ (((u5.2 1 x5.toNatClampNeg) = x1 → TX5_isKnown (fun (r_3 : Int32) (u5_2 : zSt) => (r_3 = (0 : Int32) → ∀ x5_4 : Int32, x5_4 = x5 + 1 → J5 x1 x2 x3 x5_4 u5_2) ∧ (¬ r_3 = (0 : Int32) → vp_in x5 100 ∧ (∀ x3_5 : Int64, x3_5 = (x3 ||| (((1 : Int64) : Int64) <<< (((u5_2.2 0 x5.toNatClampNeg) : Int32).toInt64 &&& 63))) → ∀ x5_6 : Int32, x5_6 = x5 + 1 → J5 x1 x2 x3_5 x5_6 u5_2))) x5 x2 u5) ∧ (¬ (u5.2 1 x5.toNatClampNeg) = x1 → ∀ x5_1 : Int32, x5_1 = x5 + 1 → J5 x1 x2 x3 x5_1 u5)))

set_option maxHeartbeats 4000000 in
set_option maxRecDepth 100000 in
theorem bk_X5_batchesThat_5 {a : Nat → Nat → Nat} {J5 : Int32 → Int32 → Int64 → Int32 → zSt → Prop} {Q1 : Int64 → zSt → Prop} {x1 : Int32} {x2 : Int32} {x3 : Int64} {x5 : Int32} {u5 : zSt} (C : zCx p s m args c cX5_batchesThat 6 RX5 wsX5_batchesThat D cI cZ cJ A) (Y : zDy D A s.heap (k5 a cI cZ u5) H locs) (hl : lv_has ls 6 [(0, .ref (a 5 99)), (1, .int x1), (2, .int x2), (3, .long x3), (5, .int x5)]) (hret : ∀ {pc : Nat} {H : Heap} {locs : List Loc} {ls : Array Slot} {r : Int64} {u : zSt}, zDy D A s.heap ((fun u : zSt => k5 a cI cZ u) u) H locs → Q1 r u → decode cX5_batchesThat pc = .ok (.lreturn, 1) → W p l e ({ frames := 1, cells := 0, slots := 0, locals := 22 } : Room) s m args below meth c H locs 0 0 Q (F0 m pc ls [.long r])) (hJ5 : ∀ (x1 : Int32) (x2 : Int32) (x3 : Int64) (x5 : Int32) (u5 : zSt) (H : Heap) (locs : List Loc) (ls : Array Slot), J5 x1 x2 x3 x5 u5 → zDy D A s.heap (k5 a cI cZ u5) H locs → lv_has ls 6 [(0, .ref (a 5 99)), (1, .int x1), (2, .int x2), (3, .long x3), (5, .int x5)] → W p l e ({ frames := 1, cells := 0, slots := 0, locals := 22 } : Room) s m args below meth c H locs 0 0 Q (F0 m 5 ls [])) (hv : wp_X5_batchesThat_5 J5 Q1 x1 x2 x3 x5 u5) : W p l e ({ frames := 1, cells := 0, slots := 0, locals := 22 } : Room) s m args below meth c H locs 0 0 Q (F0 m 5 ls []) := by
  unfold wp_X5_batchesThat_5 at hv
  obtain ⟨hx, hb, hml, hown, hts, hK, hA⟩ := id C
  refine lv_iload hx hb dX5_batchesThat_5 (lv_at hl 4 rfl) ?_
  refine lv_aload_n hx hb dX5_batchesThat_7 rfl (lv_at hl 0 rfl) ?_
  refine z_get C Y (Cn := RX5) (T := TX5) (N := 6) in_X5_batchesThat_5 rfl (ge5_5 ..) 4 (by decide) fl_X5_batchesThat_25 rfl dX5_batchesThat_8 ?_
  refine lv_icmp_ge (tgt := 53) hx hb dX5_batchesThat_11 (by decide) (fun hc => ?_) (fun hc => ?_)
  · have hv := hv.1 hc
    refine lv_lload_n hx hb dX5_batchesThat_53 rfl (lv_at hl 3 rfl) ?_
    exact hret Y hv dX5_batchesThat_54
  · have hv := hv.2 hc
    refine lv_aload_n hx hb dX5_batchesThat_14 rfl (lv_at hl 0 rfl) ?_
    refine z_get C Y (Cn := RX5) (T := TX5) (N := 6) in_X5_batchesThat_5 rfl (ge5_5 ..) 1 (by decide) fl_X5_batchesThat_15 rfl dX5_batchesThat_15 ?_
    refine lv_iload hx hb dX5_batchesThat_18 (lv_at hl 4 rfl) ?_
    obtain ⟨hi, hv⟩ := hv
    refine z_ldZ C Y (pa5_5_1 ..) hi dX5_batchesThat_20 ?_
    refine lv_iload_n hx hb dX5_batchesThat_21 rfl (lv_at hl 1 rfl) ?_
    refine lv_icmp_ne (tgt := 47) hx hb dX5_batchesThat_22 (by decide) (fun hc => ?_) (fun hc => ?_)
    · have hv := hv.2 hc
      obtain ⟨x5_1, ex5_1, hv⟩ := z_nv hv
      refine lv_iinc (v := x5_1) (lv' := [(5, .int x5_1), (0, .ref (a 5 99)), (1, .int x1), (2, .int x2), (3, .long x3)]) hx hb dX5_batchesThat_47 hl (k := 4) rfl (by rw [ex5_1]; rfl) (by decide) rfl (fun ls hl => ?_)
      refine lv_goto (tgt := 5) hx hb dX5_batchesThat_50 (by decide) ?_
      exact hJ5 _ _ _ _ _ _ _ _ hv Y (lv_sub hl [1, 2, 3, 4, 0] rfl)
    · have hv := hv.1 hc
      refine lv_aload_n hx hb dX5_batchesThat_25 rfl (lv_at hl 0 rfl) ?_
      refine lv_iload hx hb dX5_batchesThat_26 (lv_at hl 4 rfl) ?_
      refine lv_iload_n hx hb dX5_batchesThat_28 rfl (lv_at hl 2 rfl) ?_
      refine z_callVi C Y (c_X5_isKnown l hv) (zFr.self _ _) (cwV 2 hts gX5_batchesThat_X5_isKnown rfl rfl rfl (by decide +kernel) ⟨(Nat.le_of_ble_eq_true rfl), (Nat.le_of_ble_eq_true rfl)⟩) (ge5_5 ..) rfl rfl rfl hl.1 rfl (Nat.le_of_ble_eq_true rfl) dX5_batchesThat_29 ⟨Nat.zero_le _, Nat.zero_le _⟩ (fun r_3 u5_2 H locs Y hv => ?_)
      refine lv_if_eq (tgt := 47) hx hb dX5_batchesThat_32 (by decide) (fun hc => ?_) (fun hc => ?_)
      · have hv := hv.1 hc
        obtain ⟨x5_4, ex5_4, hv⟩ := z_nv hv
        refine lv_iinc (v := x5_4) (lv' := [(5, .int x5_4), (0, .ref (a 5 99)), (1, .int x1), (2, .int x2), (3, .long x3)]) hx hb dX5_batchesThat_47 hl (k := 4) rfl (by rw [ex5_4]; rfl) (by decide) rfl (fun ls hl => ?_)
        refine lv_goto (tgt := 5) hx hb dX5_batchesThat_50 (by decide) ?_
        exact hJ5 _ _ _ _ _ _ _ _ hv Y (lv_sub hl [1, 2, 3, 4, 0] rfl)
      · have hv := hv.2 hc
        refine lv_lload_n hx hb dX5_batchesThat_35 rfl (lv_at hl 3 rfl) ?_
        refine lv_lconst (v := 1) hx hb dX5_batchesThat_36 (by decide) ?_
        refine lv_aload_n hx hb dX5_batchesThat_37 rfl (lv_at hl 0 rfl) ?_
        refine z_get C Y (Cn := RX5) (T := TX5) (N := 6) in_X5_batchesThat_5 rfl (ge5_5 ..) 0 (by decide) fl_X5_batchesThat_9 rfl dX5_batchesThat_38 ?_
        refine lv_iload hx hb dX5_batchesThat_41 (lv_at hl 4 rfl) ?_
        obtain ⟨hi, hv⟩ := hv
        refine z_ldI C Y (pa5_5_0 ..) hi dX5_batchesThat_43 ?_
        refine lv_lshl hx hb dX5_batchesThat_44 rfl ?_
        refine lv_lor hx hb dX5_batchesThat_45 ?_
        refine z_topl hv (fun x3_5 ex3_5 hv => ?_)
        refine lv_lstore_n (lv' := [(3, .long x3_5), (0, .ref (a 5 99)), (1, .int x1), (2, .int x2), (5, .int x5)]) hx hb dX5_batchesThat_46 rfl hl (by decide) rfl (fun ls hl => ?_)
        obtain ⟨x5_6, ex5_6, hv⟩ := z_nv hv
        refine lv_iinc (v := x5_6) (lv' := [(5, .int x5_6), (3, .long x3_5), (0, .ref (a 5 99)), (1, .int x1), (2, .int x2)]) hx hb dX5_batchesThat_47 hl (k := 4) rfl (by rw [ex5_6]; rfl) (by decide) rfl (fun ls hl => ?_)
        refine lv_goto (tgt := 5) hx hb dX5_batchesThat_50 (by decide) ?_
        exact hJ5 _ _ _ _ _ _ _ _ hv Y (lv_sub hl [2, 3, 4, 1, 0] rfl)

end
set_option maxHeartbeats 4000000 in
set_option maxRecDepth 100000 in
theorem k_X5_batchesThat (l : Launch) {D : va_G} {cI cZ cJ : ClassId} {a : Nat → Nat → Nat} {Q1 : Int64 → zSt → Prop} {p1 : Int32} {p2 : Int32} {u5 : zSt} (I5 : Nat → Int32 → Int32 → Int64 → Int32 → zSt → Prop)
    (hv : wp_X5_batchesThat_0 (fun x1 x2 x3 x5 u5 => ∃ n : Nat, I5 n x1 x2 x3 x5 u5) Q1 p1 p2 u5)
    (hI5 : ∀ (n : Nat) (x1 : Int32) (x2 : Int32) (x3 : Int64) (x5 : Int32) (u5 : zSt), I5 n x1 x2 x3 x5 u5 → wp_X5_batchesThat_5 (fun x1 x2 x3 x5 u5 => ∃ k : Nat, k < n ∧ I5 k x1 x2 x3 x5 u5) Q1 x1 x2 x3 x5 u5) : zML l yX5_batchesThat wsX5_batchesThat ({ frames := 1, cells := 0, slots := 0, locals := 22 } : Room) D cI cZ cJ [.ref (a 5 99), .int p1, .int p2] (k5 a cI cZ u5) (fun u : zSt => k5 a cI cZ u) Q1 := by
  refine z_ofL (by decide) rfl rfl (Nat.le_of_ble_eq_true rfl) (@fun p e s m args below meth c A Q ls C Y hl hret => ?_)
  have key : ∀ n : Nat, (∀ (x1 : Int32) (x2 : Int32) (x3 : Int64) (x5 : Int32) (u5 : zSt) (H : Heap) (locs : List Loc) (ls : Array Slot), I5 n x1 x2 x3 x5 u5 → zDy D A s.heap (k5 a cI cZ u5) H locs → lv_has ls 6 [(0, .ref (a 5 99)), (1, .int x1), (2, .int x2), (3, .long x3), (5, .int x5)] → W p l e ({ frames := 1, cells := 0, slots := 0, locals := 22 } : Room) s m args below meth c H locs 0 0 Q (F0 m 5 ls [])) := by
    intro n
    induction n using Nat.strongRecOn with
    | _ n ih =>
      exact fun x1 x2 x3 x5 u5 H locs ls hi Y hl => bk_X5_batchesThat_5 C Y hl hret (fun y0 y1 y2 y3 y4 H locs ls hi Y hl => by obtain ⟨k, hk, hi⟩ := hi; exact (ih k hk) y0 y1 y2 y3 y4 H locs ls hi Y hl) (hI5 n x1 x2 x3 x5 u5 hi)
  exact bk_X5_batchesThat_0 C Y hl hret (fun y0 y1 y2 y3 y4 H locs ls hi Y hl => by obtain ⟨n, hi⟩ := hi; exact (key n) y0 y1 y2 y3 y4 H locs ls hi Y hl) hv
def TX5_batchesThat (Q1 : Int64 → zSt → Prop) (p1 : Int32) (p2 : Int32) (u5 : zSt) : Prop :=
  ∃ I5 : Nat → Int32 → Int32 → Int64 → Int32 → zSt → Prop, (wp_X5_batchesThat_0 (fun x1 x2 x3 x5 u5 => ∃ n : Nat, I5 n x1 x2 x3 x5 u5) Q1 p1 p2 u5) ∧ (∀ (n : Nat) (x1 : Int32) (x2 : Int32) (x3 : Int64) (x5 : Int32) (u5 : zSt), I5 n x1 x2 x3 x5 u5 → wp_X5_batchesThat_5 (fun x1 x2 x3 x5 u5 => ∃ k : Nat, k < n ∧ I5 k x1 x2 x3 x5 u5) Q1 x1 x2 x3 x5 u5)
set_option maxHeartbeats 4000000 in
set_option maxRecDepth 100000 in
theorem c_X5_batchesThat (l : Launch) {D : va_G} {cI cZ cJ : ClassId} {a : Nat → Nat → Nat} {Q1 : Int64 → zSt → Prop} {p1 : Int32} {p2 : Int32} {u5 : zSt} (hv : TX5_batchesThat Q1 p1 p2 u5) : zML l yX5_batchesThat wsX5_batchesThat ({ frames := 1, cells := 0, slots := 0, locals := 22 } : Room) D cI cZ cJ [.ref (a 5 99), .int p1, .int p2] (k5 a cI cZ u5) (fun u : zSt => k5 a cI cZ u) Q1 := by
  obtain ⟨I5, hv, hI5⟩ := hv
  exact k_X5_batchesThat l I5 hv hI5


