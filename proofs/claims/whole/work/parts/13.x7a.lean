section
variable {p : Program} {l : Launch} {e : Env} {s : State} {m : MethodId} {args : Array Value} {below : List Frame} {meth : Method} {c : Code} {H : Heap} {locs : List Loc} {Q : State → Prop} {D : va_G} {cI cZ cJ : ClassId} {A : Nat → Prop} {ls : Array Slot}
def wp_J6_bitCount_0f7a4_0 (Q1 : Int32 → Unit → Prop) (p0 : Int32) : Prop :=
  ∀ x0_1 : Int32, x0_1 = (p0 - ((((p0 : Int32).toUInt32 >>> ((1 : Int32).toUInt32 &&& Int32.toUInt32 31)).toInt32) &&& 1431655765)) → ∀ x0_2 : Int32, x0_2 = ((x0_1 &&& 858993459) + ((((x0_1 : Int32).toUInt32 >>> ((2 : Int32).toUInt32 &&& Int32.toUInt32 31)).toInt32) &&& 858993459)) → ∀ x0_3 : Int32, x0_3 = ((x0_2 + (((x0_2 : Int32).toUInt32 >>> ((4 : Int32).toUInt32 &&& Int32.toUInt32 31)).toInt32)) &&& 252645135) → ∀ x0_4 : Int32, x0_4 = (x0_3 + (((x0_3 : Int32).toUInt32 >>> ((8 : Int32).toUInt32 &&& Int32.toUInt32 31)).toInt32)) → ∀ x0_5 : Int32, x0_5 = (x0_4 + (((x0_4 : Int32).toUInt32 >>> ((16 : Int32).toUInt32 &&& Int32.toUInt32 31)).toInt32)) → Q1 (x0_5 &&& 63) ()

set_option maxHeartbeats 4000000 in
set_option maxRecDepth 100000 in
theorem bk_J6_bitCount_0f7a4_0 {Q1 : Int32 → Unit → Prop} {p0 : Int32} (C : zCx p s m args c cJ6_bitCount_0f7a4 1 RJ6 wsJ6_bitCount_0f7a4 D cI cZ cJ A) (Y : zDy D A s.heap ([] : va_W) H locs) (hl : lv_has ls 1 [(0, .int p0)]) (hret : ∀ {pc : Nat} {H : Heap} {locs : List Loc} {ls : Array Slot} {r : Int32} {u : Unit}, zDy D A s.heap ((fun _ : Unit => ([] : va_W)) u) H locs → Q1 r u → decode cJ6_bitCount_0f7a4 pc = .ok (.ireturn, 1) → W p l e ({ frames := 0, cells := 0, slots := 0, locals := 0 } : Room) s m args below meth c H locs 0 0 Q (F0 m pc ls [.int r])) (hv : wp_J6_bitCount_0f7a4_0 Q1 p0 ) : W p l e ({ frames := 0, cells := 0, slots := 0, locals := 0 } : Room) s m args below meth c H locs 0 0 Q (F0 m 0 ls []) := by
  unfold wp_J6_bitCount_0f7a4_0 at hv
  obtain ⟨hx, hb, hml, hown, hts, hK, hA⟩ := id C
  refine lv_iload_n hx hb dJ6_bitCount_0f7a4_0 rfl (lv_at hl 0 rfl) ?_
  refine lv_iload_n hx hb dJ6_bitCount_0f7a4_1 rfl (lv_at hl 0 rfl) ?_
  refine lv_iconst (v := 1) hx hb dJ6_bitCount_0f7a4_2 (by decide) ?_
  refine lv_iushr hx hb dJ6_bitCount_0f7a4_3 rfl ?_
  refine lv_ldcw (v := 1431655765) hx hb hown (hts (.constant RJ6 265 1431655765) (by decide +kernel)) dJ6_bitCount_0f7a4_4 ?_
  refine lv_iand hx hb dJ6_bitCount_0f7a4_7 ?_
  refine lv_isub hx hb dJ6_bitCount_0f7a4_8 ?_
  refine z_topi hv (fun x0_1 ex0_1 hv => ?_)
  refine lv_istore_n (lv' := [(0, .int x0_1)]) hx hb dJ6_bitCount_0f7a4_9 rfl hl (by decide) rfl (fun ls hl => ?_)
  refine lv_iload_n hx hb dJ6_bitCount_0f7a4_10 rfl (lv_at hl 0 rfl) ?_
  refine lv_ldcw (v := 858993459) hx hb hown (hts (.constant RJ6 266 858993459) (by decide +kernel)) dJ6_bitCount_0f7a4_11 ?_
  refine lv_iand hx hb dJ6_bitCount_0f7a4_14 ?_
  refine lv_iload_n hx hb dJ6_bitCount_0f7a4_15 rfl (lv_at hl 0 rfl) ?_
  refine lv_iconst (v := 2) hx hb dJ6_bitCount_0f7a4_16 (by decide) ?_
  refine lv_iushr hx hb dJ6_bitCount_0f7a4_17 rfl ?_
  refine lv_ldcw (v := 858993459) hx hb hown (hts (.constant RJ6 266 858993459) (by decide +kernel)) dJ6_bitCount_0f7a4_18 ?_
  refine lv_iand hx hb dJ6_bitCount_0f7a4_21 ?_
  refine lv_iadd hx hb dJ6_bitCount_0f7a4_22 ?_
  refine z_topi hv (fun x0_2 ex0_2 hv => ?_)
  refine lv_istore_n (lv' := [(0, .int x0_2)]) hx hb dJ6_bitCount_0f7a4_23 rfl hl (by decide) rfl (fun ls hl => ?_)
  refine lv_iload_n hx hb dJ6_bitCount_0f7a4_24 rfl (lv_at hl 0 rfl) ?_
  refine lv_iload_n hx hb dJ6_bitCount_0f7a4_25 rfl (lv_at hl 0 rfl) ?_
  refine lv_iconst (v := 4) hx hb dJ6_bitCount_0f7a4_26 (by decide) ?_
  refine lv_iushr hx hb dJ6_bitCount_0f7a4_27 rfl ?_
  refine lv_iadd hx hb dJ6_bitCount_0f7a4_28 ?_
  refine lv_ldcw (v := 252645135) hx hb hown (hts (.constant RJ6 267 252645135) (by decide +kernel)) dJ6_bitCount_0f7a4_29 ?_
  refine lv_iand hx hb dJ6_bitCount_0f7a4_32 ?_
  refine z_topi hv (fun x0_3 ex0_3 hv => ?_)
  refine lv_istore_n (lv' := [(0, .int x0_3)]) hx hb dJ6_bitCount_0f7a4_33 rfl hl (by decide) rfl (fun ls hl => ?_)
  refine lv_iload_n hx hb dJ6_bitCount_0f7a4_34 rfl (lv_at hl 0 rfl) ?_
  refine lv_iload_n hx hb dJ6_bitCount_0f7a4_35 rfl (lv_at hl 0 rfl) ?_
  refine lv_bipush (v := 8) hx hb dJ6_bitCount_0f7a4_36 (by decide) ?_
  refine lv_iushr hx hb dJ6_bitCount_0f7a4_38 rfl ?_
  refine lv_iadd hx hb dJ6_bitCount_0f7a4_39 ?_
  refine z_topi hv (fun x0_4 ex0_4 hv => ?_)
  refine lv_istore_n (lv' := [(0, .int x0_4)]) hx hb dJ6_bitCount_0f7a4_40 rfl hl (by decide) rfl (fun ls hl => ?_)
  refine lv_iload_n hx hb dJ6_bitCount_0f7a4_41 rfl (lv_at hl 0 rfl) ?_
  refine lv_iload_n hx hb dJ6_bitCount_0f7a4_42 rfl (lv_at hl 0 rfl) ?_
  refine lv_bipush (v := 16) hx hb dJ6_bitCount_0f7a4_43 (by decide) ?_
  refine lv_iushr hx hb dJ6_bitCount_0f7a4_45 rfl ?_
  refine lv_iadd hx hb dJ6_bitCount_0f7a4_46 ?_
  refine z_topi hv (fun x0_5 ex0_5 hv => ?_)
  refine lv_istore_n (lv' := [(0, .int x0_5)]) hx hb dJ6_bitCount_0f7a4_47 rfl hl (by decide) rfl (fun ls hl => ?_)
  refine lv_iload_n hx hb dJ6_bitCount_0f7a4_48 rfl (lv_at hl 0 rfl) ?_
  refine lv_bipush (v := 63) hx hb dJ6_bitCount_0f7a4_49 (by decide) ?_
  refine lv_iand hx hb dJ6_bitCount_0f7a4_51 ?_
  exact hret Y hv dJ6_bitCount_0f7a4_52

end
abbrev TJ6_bitCount_0f7a4 := wp_J6_bitCount_0f7a4_0
set_option maxHeartbeats 4000000 in
set_option maxRecDepth 100000 in
theorem c_J6_bitCount_0f7a4 (l : Launch) {D : va_G} {cI cZ cJ : ClassId} {Q1 : Int32 → Unit → Prop} {p0 : Int32} (hv : wp_J6_bitCount_0f7a4_0 Q1 p0 ) : zMI l yJ6_bitCount_0f7a4 wsJ6_bitCount_0f7a4 ({ frames := 0, cells := 0, slots := 0, locals := 0 } : Room) D cI cZ cJ [.int p0] ([] : va_W) (fun _ : Unit => ([] : va_W)) Q1 :=
  z_ofI (by decide) rfl rfl (Nat.le_of_ble_eq_true rfl) (fun C Y hl hret => bk_J6_bitCount_0f7a4_0 C Y hl hret hv)


theorem in_X7_thrown_7 : ∀ w ∈ wsX70, w ∈ wsX7_thrown := by first | exact fun w h => List.mem_cons_of_mem _ (List.mem_append_right _ h) | exact fun w h => List.mem_cons_of_mem _ (List.mem_append_left _ (List.mem_append_right _ h)) | decide +kernel
theorem fl_X7_thrown_93 : Cond.fieldLink RX7 93 (TX7 0).1 (TX7 0).2.1 (TX7 0).2.2.1 ∈ wsX7_thrown := by decide +kernel
section
variable {p : Program} {l : Launch} {e : Env} {s : State} {m : MethodId} {args : Array Value} {below : List Frame} {meth : Method} {c : Code} {H : Heap} {locs : List Loc} {Q : State → Prop} {D : va_G} {cI cZ cJ : ClassId} {A : Nat → Prop} {ls : Array Slot}
def wp_X7_thrown_0 (Q1 : Int32 → zSt → Prop) (u7 : zSt) : Prop :=
  Q1 (u7.1 0) u7

set_option maxHeartbeats 4000000 in
set_option maxRecDepth 100000 in
theorem bk_X7_thrown_0 {a : Nat → Nat → Nat} {Q1 : Int32 → zSt → Prop} {u7 : zSt} (C : zCx p s m args c cX7_thrown 1 RX7 wsX7_thrown D cI cZ cJ A) (Y : zDy D A s.heap (k7 a cI cZ u7) H locs) (hl : lv_has ls 1 [(0, .ref (a 7 99))]) (hret : ∀ {pc : Nat} {H : Heap} {locs : List Loc} {ls : Array Slot} {r : Int32} {u : zSt}, zDy D A s.heap ((fun u : zSt => k7 a cI cZ u) u) H locs → Q1 r u → decode cX7_thrown pc = .ok (.ireturn, 1) → W p l e ({ frames := 0, cells := 0, slots := 0, locals := 0 } : Room) s m args below meth c H locs 0 0 Q (F0 m pc ls [.int r])) (hv : wp_X7_thrown_0 Q1  u7) : W p l e ({ frames := 0, cells := 0, slots := 0, locals := 0 } : Room) s m args below meth c H locs 0 0 Q (F0 m 0 ls []) := by
  unfold wp_X7_thrown_0 at hv
  obtain ⟨hx, hb, hml, hown, hts, hK, hA⟩ := id C
  refine lv_aload_n hx hb dX7_thrown_0 rfl (lv_at hl 0 rfl) ?_
  refine z_get C Y (Cn := RX7) (T := TX7) (N := 42) in_X7_thrown_7 rfl (ge7_7 ..) 0 (by decide) fl_X7_thrown_93 rfl dX7_thrown_1 ?_
  exact hret Y hv dX7_thrown_4

end
abbrev TX7_thrown := wp_X7_thrown_0
set_option maxHeartbeats 4000000 in
set_option maxRecDepth 100000 in
theorem c_X7_thrown (l : Launch) {D : va_G} {cI cZ cJ : ClassId} {a : Nat → Nat → Nat} {Q1 : Int32 → zSt → Prop} {u7 : zSt} (hv : wp_X7_thrown_0 Q1  u7) : zMI l yX7_thrown wsX7_thrown ({ frames := 0, cells := 0, slots := 0, locals := 0 } : Room) D cI cZ cJ [.ref (a 7 99)] (k7 a cI cZ u7) (fun u : zSt => k7 a cI cZ u) Q1 :=
  z_ofI (by decide) rfl rfl (Nat.le_of_ble_eq_true rfl) (fun C Y hl hret => bk_X7_thrown_0 C Y hl hret hv)


theorem in_X7_throwsIf_7 : ∀ w ∈ wsX70, w ∈ wsX7_throwsIf := by first | exact fun w h => List.mem_cons_of_mem _ (List.mem_append_right _ h) | exact fun w h => List.mem_cons_of_mem _ (List.mem_append_left _ (List.mem_append_right _ h)) | decide +kernel
theorem fl_X7_throwsIf_93 : Cond.fieldLink RX7 93 (TX7 0).1 (TX7 0).2.1 (TX7 0).2.2.1 ∈ wsX7_throwsIf := by decide +kernel
section
variable {p : Program} {l : Launch} {e : Env} {s : State} {m : MethodId} {args : Array Value} {below : List Frame} {meth : Method} {c : Code} {H : Heap} {locs : List Loc} {Q : State → Prop} {D : va_G} {cI cZ cJ : ClassId} {A : Nat → Prop} {ls : Array Slot}
def wp_X7_throwsIf_0 (Q1 : Int32 → zSt → Prop) (p1 : Int32) (p2 : Int32) (u7 : zSt) : Prop :=
  (p1 = (0 : Int32) → (p1 = 0 ∨ p1 = 1) ∧ Q1 p1 u7) ∧ (¬ p1 = (0 : Int32) → ∀ u7_1 : zSt, u7_1 = zI u7 0 p2 → (p1 = 0 ∨ p1 = 1) ∧ Q1 p1 u7_1)

set_option maxHeartbeats 4000000 in
set_option maxRecDepth 100000 in
theorem bk_X7_throwsIf_0 {a : Nat → Nat → Nat} {Q1 : Int32 → zSt → Prop} {p1 : Int32} {p2 : Int32} {u7 : zSt} (C : zCx p s m args c cX7_throwsIf 3 RX7 wsX7_throwsIf D cI cZ cJ A) (Y : zDy D A s.heap (k7 a cI cZ u7) H locs) (hl : lv_has ls 3 [(0, .ref (a 7 99)), (1, .int p1), (2, .int p2)]) (hret : ∀ {pc : Nat} {H : Heap} {locs : List Loc} {ls : Array Slot} {r : Int32} {u : zSt}, zDy D A s.heap ((fun u : zSt => k7 a cI cZ u) u) H locs → (r = 0 ∨ r = 1) → Q1 r u → decode cX7_throwsIf pc = .ok (.ireturn, 1) → W p l e ({ frames := 0, cells := 0, slots := 0, locals := 0 } : Room) s m args below meth c H locs 0 0 Q (F0 m pc ls [.int r])) (hv : wp_X7_throwsIf_0 Q1 p1 p2 u7) : W p l e ({ frames := 0, cells := 0, slots := 0, locals := 0 } : Room) s m args below meth c H locs 0 0 Q (F0 m 0 ls []) := by
  unfold wp_X7_throwsIf_0 at hv
  obtain ⟨hx, hb, hml, hown, hts, hK, hA⟩ := id C
  refine lv_iload_n hx hb dX7_throwsIf_0 rfl (lv_at hl 1 rfl) ?_
  refine lv_if_eq (tgt := 9) hx hb dX7_throwsIf_1 (by decide) (fun hc => ?_) (fun hc => ?_)
  · have hv := hv.1 hc
    refine lv_iload_n hx hb dX7_throwsIf_9 rfl (lv_at hl 1 rfl) ?_
    exact hret Y hv.1 hv.2 dX7_throwsIf_10
  · have hv := hv.2 hc
    refine lv_aload_n hx hb dX7_throwsIf_4 rfl (lv_at hl 0 rfl) ?_
    refine lv_iload_n hx hb dX7_throwsIf_5 rfl (lv_at hl 2 rfl) ?_
    refine z_putI C Y (Cn := RX7) (T := TX7) (N := 42) in_X7_throwsIf_7 rfl tyX7 tyX7_ok nmX7 (ge7_7 ..) 0 (by decide) fl_X7_throwsIf_93 rfl (by decide +kernel) (Nat.le_of_ble_eq_true rfl) (si7_7_0 ..) dX7_throwsIf_6 (fun H locs Y => ?_)
    obtain ⟨u7_1, eu7_1, Y, hv⟩ := z_nm (kf := fun z => (k7 a cI cZ z)) Y hv
    refine lv_iload_n hx hb dX7_throwsIf_9 rfl (lv_at hl 1 rfl) ?_
    exact hret Y hv.1 hv.2 dX7_throwsIf_10

end
abbrev TX7_throwsIf := wp_X7_throwsIf_0
set_option maxHeartbeats 4000000 in
set_option maxRecDepth 100000 in
theorem c_X7_throwsIf (l : Launch) {D : va_G} {cI cZ cJ : ClassId} {a : Nat → Nat → Nat} {Q1 : Int32 → zSt → Prop} {p1 : Int32} {p2 : Int32} {u7 : zSt} (hv : wp_X7_throwsIf_0 Q1 p1 p2 u7) : zMI l yX7_throwsIf wsX7_throwsIf ({ frames := 0, cells := 0, slots := 0, locals := 0 } : Room) D cI cZ cJ [.ref (a 7 99), .int p1, .int p2] (k7 a cI cZ u7) (fun u : zSt => k7 a cI cZ u) Q1 :=
  z_ofZ (by decide) rfl rfl (Nat.le_of_ble_eq_true rfl) (fun C Y hl hret => bk_X7_throwsIf_0 C Y hl hret hv)


section
variable {p : Program} {l : Launch} {e : Env} {s : State} {m : MethodId} {args : Array Value} {below : List Frame} {meth : Method} {c : Code} {H : Heap} {locs : List Loc} {Q : State → Prop} {D : va_G} {cI cZ cJ : ClassId} {A : Nat → Prop} {ls : Array Slot}
def wp_X7_in_0 (Q1 : Int32 → Unit → Prop) (p0 : Int32) (p1 : Int32) (p2 : Int32) : Prop :=
  (p0 < p1 → Q1 0 ()) ∧ (¬ p0 < p1 → (p2 < p0 → Q1 0 ()) ∧ (¬ p2 < p0 → Q1 1 ()))

set_option maxHeartbeats 4000000 in
set_option maxRecDepth 100000 in
theorem bk_X7_in_0 {Q1 : Int32 → Unit → Prop} {p0 : Int32} {p1 : Int32} {p2 : Int32} (C : zCx p s m args c cX7_in 3 RX7 wsX7_in D cI cZ cJ A) (Y : zDy D A s.heap ([] : va_W) H locs) (hl : lv_has ls 3 [(0, .int p0), (1, .int p1), (2, .int p2)]) (hret : ∀ {pc : Nat} {H : Heap} {locs : List Loc} {ls : Array Slot} {r : Int32} {u : Unit}, zDy D A s.heap ((fun _ : Unit => ([] : va_W)) u) H locs → (r = 0 ∨ r = 1) → Q1 r u → decode cX7_in pc = .ok (.ireturn, 1) → W p l e ({ frames := 0, cells := 0, slots := 0, locals := 0 } : Room) s m args below meth c H locs 0 0 Q (F0 m pc ls [.int r])) (hv : wp_X7_in_0 Q1 p0 p1 p2 ) : W p l e ({ frames := 0, cells := 0, slots := 0, locals := 0 } : Room) s m args below meth c H locs 0 0 Q (F0 m 0 ls []) := by
  unfold wp_X7_in_0 at hv
  obtain ⟨hx, hb, hml, hown, hts, hK, hA⟩ := id C
  refine lv_iload_n hx hb dX7_in_0 rfl (lv_at hl 0 rfl) ?_
  refine lv_iload_n hx hb dX7_in_1 rfl (lv_at hl 1 rfl) ?_
  refine lv_icmp_lt (tgt := 14) hx hb dX7_in_2 (by decide) (fun hc => ?_) (fun hc => ?_)
  · have hv := hv.1 hc
    refine lv_iconst (v := 0) hx hb dX7_in_14 (by decide) ?_
    exact hret Y (Or.inl rfl) hv dX7_in_15
  · have hv := hv.2 hc
    refine lv_iload_n hx hb dX7_in_5 rfl (lv_at hl 0 rfl) ?_
    refine lv_iload_n hx hb dX7_in_6 rfl (lv_at hl 2 rfl) ?_
    refine lv_icmp_gt (tgt := 14) hx hb dX7_in_7 (by decide) (fun hc => ?_) (fun hc => ?_)
    · have hv := hv.1 hc
      refine lv_iconst (v := 0) hx hb dX7_in_14 (by decide) ?_
      exact hret Y (Or.inl rfl) hv dX7_in_15
    · have hv := hv.2 hc
      refine lv_iconst (v := 1) hx hb dX7_in_10 (by decide) ?_
      refine lv_goto (tgt := 15) hx hb dX7_in_11 (by decide) ?_
      exact hret Y (Or.inr rfl) hv dX7_in_15

end
abbrev TX7_in := wp_X7_in_0
set_option maxHeartbeats 4000000 in
set_option maxRecDepth 100000 in
theorem c_X7_in (l : Launch) {D : va_G} {cI cZ cJ : ClassId} {Q1 : Int32 → Unit → Prop} {p0 : Int32} {p1 : Int32} {p2 : Int32} (hv : wp_X7_in_0 Q1 p0 p1 p2 ) : zMI l yX7_in wsX7_in ({ frames := 0, cells := 0, slots := 0, locals := 0 } : Room) D cI cZ cJ [.int p0, .int p1, .int p2] ([] : va_W) (fun _ : Unit => ([] : va_W)) Q1 :=
  z_ofZ (by decide) rfl rfl (Nat.le_of_ble_eq_true rfl) (fun C Y hl hret => bk_X7_in_0 C Y hl hret hv)


theorem in_X7_earth_7 : ∀ w ∈ wsX70, w ∈ wsX7_earth := by first | exact fun w h => List.mem_cons_of_mem _ (List.mem_append_right _ h) | exact fun w h => List.mem_cons_of_mem _ (List.mem_append_left _ (List.mem_append_right _ h)) | decide +kernel
theorem fl_X7_earth_9 : Cond.fieldLink RX7 9 (TX7 2).1 (TX7 2).2.1 (TX7 2).2.2.1 ∈ wsX7_earth := by decide +kernel
theorem fl_X7_earth_13 : Cond.fieldLink RX7 13 (TX7 3).1 (TX7 3).2.1 (TX7 3).2.2.1 ∈ wsX7_earth := by decide +kernel
theorem fl_X7_earth_16 : Cond.fieldLink RX7 16 (TX7 4).1 (TX7 4).2.1 (TX7 4).2.2.1 ∈ wsX7_earth := by decide +kernel
theorem fl_X7_earth_19 : Cond.fieldLink RX7 19 (TX7 5).1 (TX7 5).2.1 (TX7 5).2.2.1 ∈ wsX7_earth := by decide +kernel
theorem fl_X7_earth_93 : Cond.fieldLink RX7 93 (TX7 0).1 (TX7 0).2.1 (TX7 0).2.2.1 ∈ wsX7_earth := by decide +kernel
theorem fl_X7_earth_104 : Cond.fieldLink RX7 104 (TX7 6).1 (TX7 6).2.1 (TX7 6).2.2.1 ∈ wsX7_earth := by decide +kernel
section
variable {p : Program} {l : Launch} {e : Env} {s : State} {m : MethodId} {args : Array Value} {below : List Frame} {meth : Method} {c : Code} {H : Heap} {locs : List Loc} {Q : State → Prop} {D : va_G} {cI cZ cJ : ClassId} {A : Nat → Prop} {ls : Array Slot}
def wp_X7_earth_72 (Q1 : Int32 → zSt → Prop) (x1 : Int32) (x2 : Int32) (x3 : Int32) (x4 : Int32) (t0 : Int32) (u7 : zSt) : Prop :=
  TX7_throwsIf (fun (r_2 : Int32) (u7_1 : zSt) => (r_2 = (0 : Int32) → vp_in (u7_1.1 6) 6 ∧ (∀ u7_3 : zSt, u7_3 = zA u7_1 2 (upd (u7_1.2 2) (u7_1.1 6).toNatClampNeg x1) → vp_in (u7_3.1 6) 6 ∧ (∀ u7_4 : zSt, u7_4 = zA u7_3 3 (upd (u7_3.2 3) (u7_3.1 6).toNatClampNeg x2) → vp_in (u7_4.1 6) 6 ∧ (∀ u7_5 : zSt, u7_5 = zA u7_4 4 (upd (u7_4.2 4) (u7_4.1 6).toNatClampNeg x3) → vp_in (u7_5.1 6) 6 ∧ (∀ u7_6 : zSt, u7_6 = zA u7_5 5 (upd (u7_5.2 5) (u7_5.1 6).toNatClampNeg x4) → ∀ u7_7 : zSt, u7_7 = zI u7_6 6 ((u7_6.1 6) + 1) → Q1 ((u7_7.1 6) - 1) u7_7))))) ∧ (¬ r_2 = (0 : Int32) → Q1 0 u7_1)) t0 2 u7

set_option maxHeartbeats 4000000 in
set_option maxRecDepth 100000 in
theorem bk_X7_earth_72 {a : Nat → Nat → Nat} {Q1 : Int32 → zSt → Prop} {x1 : Int32} {x2 : Int32} {x3 : Int32} {x4 : Int32} {t0 : Int32} {u7 : zSt} (C : zCx p s m args c cX7_earth 5 RX7 wsX7_earth D cI cZ cJ A) (Y : zDy D A s.heap (k7 a cI cZ u7) H locs) (hl : lv_has ls 5 [(0, .ref (a 7 99)), (1, .int x1), (2, .int x2), (3, .int x3), (4, .int x4)]) (hret : ∀ {pc : Nat} {H : Heap} {locs : List Loc} {ls : Array Slot} {r : Int32} {u : zSt}, zDy D A s.heap ((fun u : zSt => k7 a cI cZ u) u) H locs → Q1 r u → decode cX7_earth pc = .ok (.ireturn, 1) → W p l e ({ frames := 1, cells := 0, slots := 0, locals := 22 } : Room) s m args below meth c H locs 0 0 Q (F0 m pc ls [.int r])) (hv : wp_X7_earth_72 Q1 x1 x2 x3 x4 t0 u7) : W p l e ({ frames := 1, cells := 0, slots := 0, locals := 22 } : Room) s m args below meth c H locs 0 0 Q (F0 m 72 ls [.int t0, .ref (a 7 99)]) := by
  unfold wp_X7_earth_72 at hv
  obtain ⟨hx, hb, hml, hown, hts, hK, hA⟩ := id C
  refine lv_iconst (v := 2) hx hb dX7_earth_72 (by decide) ?_
  refine z_callVi C Y (c_X7_throwsIf l hv) (zFr.self _ _) (cwV 2 hts gX7_earth_X7_throwsIf rfl rfl rfl (by decide +kernel) ⟨(Nat.le_of_ble_eq_true rfl), (Nat.le_of_ble_eq_true rfl)⟩) (ge7_7 ..) rfl rfl rfl hl.1 rfl (Nat.le_of_ble_eq_true rfl) dX7_earth_73 ⟨Nat.zero_le _, Nat.zero_le _⟩ (fun r_2 u7_1 H locs Y hv => ?_)
  refine lv_if_eq (tgt := 81) hx hb dX7_earth_76 (by decide) (fun hc => ?_) (fun hc => ?_)
  · have hv := hv.1 hc
    refine lv_aload_n hx hb dX7_earth_81 rfl (lv_at hl 0 rfl) ?_
    refine z_get C Y (Cn := RX7) (T := TX7) (N := 42) in_X7_earth_7 rfl (ge7_7 ..) 2 (by decide) fl_X7_earth_9 rfl dX7_earth_82 ?_
    refine lv_aload_n hx hb dX7_earth_85 rfl (lv_at hl 0 rfl) ?_
    refine z_get C Y (Cn := RX7) (T := TX7) (N := 42) in_X7_earth_7 rfl (ge7_7 ..) 6 (by decide) fl_X7_earth_104 rfl dX7_earth_86 ?_
    refine lv_iload_n hx hb dX7_earth_89 rfl (lv_at hl 1 rfl) ?_
    obtain ⟨hi, hv⟩ := hv
    refine z_stI C Y (pa7_7_2 ..) (sa7_7_2 ..) hi dX7_earth_90 (fun H locs Y => ?_)
    obtain ⟨u7_3, eu7_3, Y, hv⟩ := z_nm (kf := fun z => (k7 a cI cZ z)) Y hv
    refine lv_aload_n hx hb dX7_earth_91 rfl (lv_at hl 0 rfl) ?_
    refine z_get C Y (Cn := RX7) (T := TX7) (N := 42) in_X7_earth_7 rfl (ge7_7 ..) 3 (by decide) fl_X7_earth_13 rfl dX7_earth_92 ?_
    refine lv_aload_n hx hb dX7_earth_95 rfl (lv_at hl 0 rfl) ?_
    refine z_get C Y (Cn := RX7) (T := TX7) (N := 42) in_X7_earth_7 rfl (ge7_7 ..) 6 (by decide) fl_X7_earth_104 rfl dX7_earth_96 ?_
    refine lv_iload_n hx hb dX7_earth_99 rfl (lv_at hl 2 rfl) ?_
    obtain ⟨hi, hv⟩ := hv
    refine z_stI C Y (pa7_7_3 ..) (sa7_7_3 ..) hi dX7_earth_100 (fun H locs Y => ?_)
    obtain ⟨u7_4, eu7_4, Y, hv⟩ := z_nm (kf := fun z => (k7 a cI cZ z)) Y hv
    refine lv_aload_n hx hb dX7_earth_101 rfl (lv_at hl 0 rfl) ?_
    refine z_get C Y (Cn := RX7) (T := TX7) (N := 42) in_X7_earth_7 rfl (ge7_7 ..) 4 (by decide) fl_X7_earth_16 rfl dX7_earth_102 ?_
    refine lv_aload_n hx hb dX7_earth_105 rfl (lv_at hl 0 rfl) ?_
    refine z_get C Y (Cn := RX7) (T := TX7) (N := 42) in_X7_earth_7 rfl (ge7_7 ..) 6 (by decide) fl_X7_earth_104 rfl dX7_earth_106 ?_
    refine lv_iload_n hx hb dX7_earth_109 rfl (lv_at hl 3 rfl) ?_
    obtain ⟨hi, hv⟩ := hv
    refine z_stI C Y (pa7_7_4 ..) (sa7_7_4 ..) hi dX7_earth_110 (fun H locs Y => ?_)
    obtain ⟨u7_5, eu7_5, Y, hv⟩ := z_nm (kf := fun z => (k7 a cI cZ z)) Y hv
    refine lv_aload_n hx hb dX7_earth_111 rfl (lv_at hl 0 rfl) ?_
    refine z_get C Y (Cn := RX7) (T := TX7) (N := 42) in_X7_earth_7 rfl (ge7_7 ..) 5 (by decide) fl_X7_earth_19 rfl dX7_earth_112 ?_
    refine lv_aload_n hx hb dX7_earth_115 rfl (lv_at hl 0 rfl) ?_
    refine z_get C Y (Cn := RX7) (T := TX7) (N := 42) in_X7_earth_7 rfl (ge7_7 ..) 6 (by decide) fl_X7_earth_104 rfl dX7_earth_116 ?_
    refine lv_iload hx hb dX7_earth_119 (lv_at hl 4 rfl) ?_
    obtain ⟨hi, hv⟩ := hv
    refine z_stI C Y (pa7_7_5 ..) (sa7_7_5 ..) hi dX7_earth_121 (fun H locs Y => ?_)
    obtain ⟨u7_6, eu7_6, Y, hv⟩ := z_nm (kf := fun z => (k7 a cI cZ z)) Y hv
    refine lv_aload_n hx hb dX7_earth_122 rfl (lv_at hl 0 rfl) ?_
    refine lv_dup hx hb dX7_earth_123 rfl ?_
    refine z_get C Y (Cn := RX7) (T := TX7) (N := 42) in_X7_earth_7 rfl (ge7_7 ..) 6 (by decide) fl_X7_earth_104 rfl dX7_earth_124 ?_
    refine lv_iconst (v := 1) hx hb dX7_earth_127 (by decide) ?_
    refine lv_iadd hx hb dX7_earth_128 ?_
    refine z_putI C Y (Cn := RX7) (T := TX7) (N := 42) in_X7_earth_7 rfl tyX7 tyX7_ok nmX7 (ge7_7 ..) 6 (by decide) fl_X7_earth_104 rfl (by decide +kernel) (Nat.le_of_ble_eq_true rfl) (si7_7_6 ..) dX7_earth_129 (fun H locs Y => ?_)
    obtain ⟨u7_7, eu7_7, Y, hv⟩ := z_nm (kf := fun z => (k7 a cI cZ z)) Y hv
    refine lv_aload_n hx hb dX7_earth_132 rfl (lv_at hl 0 rfl) ?_
    refine z_get C Y (Cn := RX7) (T := TX7) (N := 42) in_X7_earth_7 rfl (ge7_7 ..) 6 (by decide) fl_X7_earth_104 rfl dX7_earth_133 ?_
    refine lv_iconst (v := 1) hx hb dX7_earth_136 (by decide) ?_
    refine lv_isub hx hb dX7_earth_137 ?_
    exact hret Y hv dX7_earth_138
  · have hv := hv.2 hc
    refine lv_iconst (v := 0) hx hb dX7_earth_79 (by decide) ?_
    exact hret Y hv dX7_earth_80

def wp_X7_earth_50 (Q1 : Int32 → zSt → Prop) (x1 : Int32) (x2 : Int32) (x3 : Int32) (x4 : Int32) (t0 : Int32) (u7 : zSt) : Prop :=
  TX7_throwsIf (fun (r_2 : Int32) (u7_1 : zSt) => (r_2 = (0 : Int32) → ((u7_1.1 6) = (6 : Int32) → wp_X7_earth_72 Q1 x1 x2 x3 x4 1 u7_1) ∧ (¬ (u7_1.1 6) = (6 : Int32) → wp_X7_earth_72 Q1 x1 x2 x3 x4 0 u7_1)) ∧ (¬ r_2 = (0 : Int32) → Q1 0 u7_1)) t0 1 u7

set_option maxHeartbeats 4000000 in
set_option maxRecDepth 100000 in
theorem bk_X7_earth_50 {a : Nat → Nat → Nat} {Q1 : Int32 → zSt → Prop} {x1 : Int32} {x2 : Int32} {x3 : Int32} {x4 : Int32} {t0 : Int32} {u7 : zSt} (C : zCx p s m args c cX7_earth 5 RX7 wsX7_earth D cI cZ cJ A) (Y : zDy D A s.heap (k7 a cI cZ u7) H locs) (hl : lv_has ls 5 [(0, .ref (a 7 99)), (1, .int x1), (2, .int x2), (3, .int x3), (4, .int x4)]) (hret : ∀ {pc : Nat} {H : Heap} {locs : List Loc} {ls : Array Slot} {r : Int32} {u : zSt}, zDy D A s.heap ((fun u : zSt => k7 a cI cZ u) u) H locs → Q1 r u → decode cX7_earth pc = .ok (.ireturn, 1) → W p l e ({ frames := 1, cells := 0, slots := 0, locals := 22 } : Room) s m args below meth c H locs 0 0 Q (F0 m pc ls [.int r])) (hv : wp_X7_earth_50 Q1 x1 x2 x3 x4 t0 u7) : W p l e ({ frames := 1, cells := 0, slots := 0, locals := 22 } : Room) s m args below meth c H locs 0 0 Q (F0 m 50 ls [.int t0, .ref (a 7 99)]) := by
  unfold wp_X7_earth_50 at hv
  obtain ⟨hx, hb, hml, hown, hts, hK, hA⟩ := id C
  refine lv_iconst (v := 1) hx hb dX7_earth_50 (by decide) ?_
  refine z_callVi C Y (c_X7_throwsIf l hv) (zFr.self _ _) (cwV 2 hts gX7_earth_X7_throwsIf rfl rfl rfl (by decide +kernel) ⟨(Nat.le_of_ble_eq_true rfl), (Nat.le_of_ble_eq_true rfl)⟩) (ge7_7 ..) rfl rfl rfl hl.1 rfl (Nat.le_of_ble_eq_true rfl) dX7_earth_51 ⟨Nat.zero_le _, Nat.zero_le _⟩ (fun r_2 u7_1 H locs Y hv => ?_)
  refine lv_if_ne (tgt := 79) hx hb dX7_earth_54 (by decide) (fun hc => ?_) (fun hc => ?_)
  · have hv := hv.2 hc
    refine lv_iconst (v := 0) hx hb dX7_earth_79 (by decide) ?_
    exact hret Y hv dX7_earth_80
  · have hv := hv.1 hc
    refine lv_aload_n hx hb dX7_earth_57 rfl (lv_at hl 0 rfl) ?_
    refine lv_aload_n hx hb dX7_earth_58 rfl (lv_at hl 0 rfl) ?_
    refine z_get C Y (Cn := RX7) (T := TX7) (N := 42) in_X7_earth_7 rfl (ge7_7 ..) 6 (by decide) fl_X7_earth_104 rfl dX7_earth_59 ?_
    refine lv_bipush (v := 6) hx hb dX7_earth_62 (by decide) ?_
    refine lv_icmp_ne (tgt := 71) hx hb dX7_earth_64 (by decide) (fun hc => ?_) (fun hc => ?_)
    · have hv := hv.2 hc
      refine lv_iconst (v := 0) hx hb dX7_earth_71 (by decide) ?_
      exact bk_X7_earth_72 C Y (lv_sub hl [0, 1, 2, 3, 4] rfl) hret hv
    · have hv := hv.1 hc
      refine lv_iconst (v := 1) hx hb dX7_earth_67 (by decide) ?_
      refine lv_goto (tgt := 72) hx hb dX7_earth_68 (by decide) ?_
      exact bk_X7_earth_72 C Y (lv_sub hl [0, 1, 2, 3, 4] rfl) hret hv

def wp_X7_earth_45 (Q1 : Int32 → zSt → Prop) (x1 : Int32) (x2 : Int32) (x3 : Int32) (x4 : Int32) (u7 : zSt) : Prop :=
  wp_X7_earth_50 Q1 x1 x2 x3 x4 1 u7

set_option maxHeartbeats 4000000 in
set_option maxRecDepth 100000 in
theorem bk_X7_earth_45 {a : Nat → Nat → Nat} {Q1 : Int32 → zSt → Prop} {x1 : Int32} {x2 : Int32} {x3 : Int32} {x4 : Int32} {u7 : zSt} (C : zCx p s m args c cX7_earth 5 RX7 wsX7_earth D cI cZ cJ A) (Y : zDy D A s.heap (k7 a cI cZ u7) H locs) (hl : lv_has ls 5 [(0, .ref (a 7 99)), (1, .int x1), (2, .int x2), (3, .int x3), (4, .int x4)]) (hret : ∀ {pc : Nat} {H : Heap} {locs : List Loc} {ls : Array Slot} {r : Int32} {u : zSt}, zDy D A s.heap ((fun u : zSt => k7 a cI cZ u) u) H locs → Q1 r u → decode cX7_earth pc = .ok (.ireturn, 1) → W p l e ({ frames := 1, cells := 0, slots := 0, locals := 22 } : Room) s m args below meth c H locs 0 0 Q (F0 m pc ls [.int r])) (hv : wp_X7_earth_45 Q1 x1 x2 x3 x4 u7) : W p l e ({ frames := 1, cells := 0, slots := 0, locals := 22 } : Room) s m args below meth c H locs 0 0 Q (F0 m 45 ls [.ref (a 7 99)]) := by
  unfold wp_X7_earth_45 at hv
  obtain ⟨hx, hb, hml, hown, hts, hK, hA⟩ := id C
  refine lv_iconst (v := 1) hx hb dX7_earth_45 (by decide) ?_
  refine lv_goto (tgt := 50) hx hb dX7_earth_46 (by decide) ?_
  exact bk_X7_earth_50 C Y (lv_sub hl [0, 1, 2, 3, 4] rfl) hret hv

def wp_X7_earth_0 (Q1 : Int32 → zSt → Prop) (p1 : Int32) (p2 : Int32) (p3 : Int32) (p4 : Int32) (u7 : zSt) : Prop :=
  ∀ u7_1 : zSt, u7_1 = zI u7 0 0 → (p1 < (0 : Int32) → wp_X7_earth_45 Q1 p1 p2 p3 p4 u7_1) ∧ (¬ p1 < (0 : Int32) → (p2 < p1 → wp_X7_earth_45 Q1 p1 p2 p3 p4 u7_1) ∧ (¬ p2 < p1 → ((1000 : Int32) < p2 → wp_X7_earth_45 Q1 p1 p2 p3 p4 u7_1) ∧ (¬ (1000 : Int32) < p2 → TX7_in (fun (r_2 : Int32) (_ : Unit) => (r_2 = (0 : Int32) → wp_X7_earth_45 Q1 p1 p2 p3 p4 u7_1) ∧ (¬ r_2 = (0 : Int32) → TX7_in (fun (r_3 : Int32) (_ : Unit) => (r_3 = (0 : Int32) → wp_X7_earth_45 Q1 p1 p2 p3 p4 u7_1) ∧ (¬ r_3 = (0 : Int32) → wp_X7_earth_50 Q1 p1 p2 p3 p4 0 u7_1)) p4 0 1000 )) p3 1 1000 )))

set_option maxHeartbeats 4000000 in
set_option maxRecDepth 100000 in
theorem bk_X7_earth_0 {a : Nat → Nat → Nat} {Q1 : Int32 → zSt → Prop} {p1 : Int32} {p2 : Int32} {p3 : Int32} {p4 : Int32} {u7 : zSt} (C : zCx p s m args c cX7_earth 5 RX7 wsX7_earth D cI cZ cJ A) (Y : zDy D A s.heap (k7 a cI cZ u7) H locs) (hl : lv_has ls 5 [(0, .ref (a 7 99)), (1, .int p1), (2, .int p2), (3, .int p3), (4, .int p4)]) (hret : ∀ {pc : Nat} {H : Heap} {locs : List Loc} {ls : Array Slot} {r : Int32} {u : zSt}, zDy D A s.heap ((fun u : zSt => k7 a cI cZ u) u) H locs → Q1 r u → decode cX7_earth pc = .ok (.ireturn, 1) → W p l e ({ frames := 1, cells := 0, slots := 0, locals := 22 } : Room) s m args below meth c H locs 0 0 Q (F0 m pc ls [.int r])) (hv : wp_X7_earth_0 Q1 p1 p2 p3 p4 u7) : W p l e ({ frames := 1, cells := 0, slots := 0, locals := 22 } : Room) s m args below meth c H locs 0 0 Q (F0 m 0 ls []) := by
  unfold wp_X7_earth_0 at hv
  obtain ⟨hx, hb, hml, hown, hts, hK, hA⟩ := id C
  refine lv_aload_n hx hb dX7_earth_0 rfl (lv_at hl 0 rfl) ?_
  refine lv_iconst (v := 0) hx hb dX7_earth_1 (by decide) ?_
  refine z_putI C Y (Cn := RX7) (T := TX7) (N := 42) in_X7_earth_7 rfl tyX7 tyX7_ok nmX7 (ge7_7 ..) 0 (by decide) fl_X7_earth_93 rfl (by decide +kernel) (Nat.le_of_ble_eq_true rfl) (si7_7_0 ..) dX7_earth_2 (fun H locs Y => ?_)
  obtain ⟨u7_1, eu7_1, Y, hv⟩ := z_nm (kf := fun z => (k7 a cI cZ z)) Y hv
  refine lv_aload_n hx hb dX7_earth_5 rfl (lv_at hl 0 rfl) ?_
  refine lv_iload_n hx hb dX7_earth_6 rfl (lv_at hl 1 rfl) ?_
  refine lv_if_lt (tgt := 45) hx hb dX7_earth_7 (by decide) (fun hc => ?_) (fun hc => ?_)
  · have hv := hv.1 hc
    exact bk_X7_earth_45 C Y (lv_sub hl [0, 1, 2, 3, 4] rfl) hret hv
  · have hv := hv.2 hc
    refine lv_iload_n hx hb dX7_earth_10 rfl (lv_at hl 2 rfl) ?_
    refine lv_iload_n hx hb dX7_earth_11 rfl (lv_at hl 1 rfl) ?_
    refine lv_icmp_lt (tgt := 45) hx hb dX7_earth_12 (by decide) (fun hc => ?_) (fun hc => ?_)
    · have hv := hv.1 hc
      exact bk_X7_earth_45 C Y (lv_sub hl [0, 1, 2, 3, 4] rfl) hret hv
    · have hv := hv.2 hc
      refine lv_iload_n hx hb dX7_earth_15 rfl (lv_at hl 2 rfl) ?_
      refine lv_sipush (v := 1000) hx hb dX7_earth_16 (by decide) ?_
      refine lv_icmp_gt (tgt := 45) hx hb dX7_earth_19 (by decide) (fun hc => ?_) (fun hc => ?_)
      · have hv := hv.1 hc
        exact bk_X7_earth_45 C Y (lv_sub hl [0, 1, 2, 3, 4] rfl) hret hv
      · have hv := hv.2 hc
        refine lv_iload_n hx hb dX7_earth_22 rfl (lv_at hl 3 rfl) ?_
        refine lv_iconst (v := 1) hx hb dX7_earth_23 (by decide) ?_
        refine lv_sipush (v := 1000) hx hb dX7_earth_24 (by decide) ?_
        refine z_callSi C Y (c_X7_in l hv) (zFr.nil _) (va_cwS 3 hts gX7_earth_X7_in rfl rfl rfl (by decide +kernel) ⟨(Nat.le_of_ble_eq_true rfl), (Nat.le_of_ble_eq_true rfl)⟩) rfl hl.1 rfl (Nat.le_of_ble_eq_true rfl) dX7_earth_27 ⟨Nat.zero_le _, Nat.zero_le _⟩ (fun r_2 _ H locs Y hv => ?_)
        refine lv_if_eq (tgt := 45) hx hb dX7_earth_30 (by decide) (fun hc => ?_) (fun hc => ?_)
        · have hv := hv.1 hc
          exact bk_X7_earth_45 C Y (lv_sub hl [0, 1, 2, 3, 4] rfl) hret hv
        · have hv := hv.2 hc
          refine lv_iload hx hb dX7_earth_33 (lv_at hl 4 rfl) ?_
          refine lv_iconst (v := 0) hx hb dX7_earth_35 (by decide) ?_
          refine lv_sipush (v := 1000) hx hb dX7_earth_36 (by decide) ?_
          refine z_callSi C Y (c_X7_in l hv) (zFr.nil _) (va_cwS 3 hts gX7_earth_X7_in rfl rfl rfl (by decide +kernel) ⟨(Nat.le_of_ble_eq_true rfl), (Nat.le_of_ble_eq_true rfl)⟩) rfl hl.1 rfl (Nat.le_of_ble_eq_true rfl) dX7_earth_39 ⟨Nat.zero_le _, Nat.zero_le _⟩ (fun r_3 _ H locs Y hv => ?_)
          refine lv_if_ne (tgt := 49) hx hb dX7_earth_42 (by decide) (fun hc => ?_) (fun hc => ?_)
          · have hv := hv.2 hc
            refine lv_iconst (v := 0) hx hb dX7_earth_49 (by decide) ?_
            exact bk_X7_earth_50 C Y (lv_sub hl [0, 1, 2, 3, 4] rfl) hret hv
          · have hv := hv.1 hc
            exact bk_X7_earth_45 C Y (lv_sub hl [0, 1, 2, 3, 4] rfl) hret hv

end
abbrev TX7_earth := wp_X7_earth_0
set_option maxHeartbeats 4000000 in
set_option maxRecDepth 100000 in
theorem c_X7_earth (l : Launch) {D : va_G} {cI cZ cJ : ClassId} {a : Nat → Nat → Nat} {Q1 : Int32 → zSt → Prop} {p1 : Int32} {p2 : Int32} {p3 : Int32} {p4 : Int32} {u7 : zSt} (hv : wp_X7_earth_0 Q1 p1 p2 p3 p4 u7) : zMI l yX7_earth wsX7_earth ({ frames := 1, cells := 0, slots := 0, locals := 22 } : Room) D cI cZ cJ [.ref (a 7 99), .int p1, .int p2, .int p3, .int p4] (k7 a cI cZ u7) (fun u : zSt => k7 a cI cZ u) Q1 :=
  z_ofI (by decide) rfl rfl (Nat.le_of_ble_eq_true rfl) (fun C Y hl hret => bk_X7_earth_0 C Y hl hret hv)


theorem in_X7_noEarth_7 : ∀ w ∈ wsX70, w ∈ wsX7_noEarth := by first | exact fun w h => List.mem_cons_of_mem _ (List.mem_append_right _ h) | exact fun w h => List.mem_cons_of_mem _ (List.mem_append_left _ (List.mem_append_right _ h)) | decide +kernel
theorem fl_X7_noEarth_104 : Cond.fieldLink RX7 104 (TX7 6).1 (TX7 6).2.1 (TX7 6).2.2.1 ∈ wsX7_noEarth := by decide +kernel
section
variable {p : Program} {l : Launch} {e : Env} {s : State} {m : MethodId} {args : Array Value} {below : List Frame} {meth : Method} {c : Code} {H : Heap} {locs : List Loc} {Q : State → Prop} {D : va_G} {cI cZ cJ : ClassId} {A : Nat → Prop} {ls : Array Slot}
def wp_X7_noEarth_0 (Q1 : Int32 → zSt → Prop) (p1 : Int32) (u7 : zSt) : Prop :=
  TX7_in (fun (r_1 : Int32) (_ : Unit) => (r_1 = (0 : Int32) → Q1 1 u7) ∧ (¬ r_1 = (0 : Int32) → Q1 0 u7)) p1 0 ((u7.1 6) - 1) 

set_option maxHeartbeats 4000000 in
set_option maxRecDepth 100000 in
theorem bk_X7_noEarth_0 {a : Nat → Nat → Nat} {Q1 : Int32 → zSt → Prop} {p1 : Int32} {u7 : zSt} (C : zCx p s m args c cX7_noEarth 2 RX7 wsX7_noEarth D cI cZ cJ A) (Y : zDy D A s.heap (k7 a cI cZ u7) H locs) (hl : lv_has ls 2 [(0, .ref (a 7 99)), (1, .int p1)]) (hret : ∀ {pc : Nat} {H : Heap} {locs : List Loc} {ls : Array Slot} {r : Int32} {u : zSt}, zDy D A s.heap ((fun u : zSt => k7 a cI cZ u) u) H locs → (r = 0 ∨ r = 1) → Q1 r u → decode cX7_noEarth pc = .ok (.ireturn, 1) → W p l e ({ frames := 1, cells := 0, slots := 0, locals := 22 } : Room) s m args below meth c H locs 0 0 Q (F0 m pc ls [.int r])) (hv : wp_X7_noEarth_0 Q1 p1 u7) : W p l e ({ frames := 1, cells := 0, slots := 0, locals := 22 } : Room) s m args below meth c H locs 0 0 Q (F0 m 0 ls []) := by
  unfold wp_X7_noEarth_0 at hv
  obtain ⟨hx, hb, hml, hown, hts, hK, hA⟩ := id C
  refine lv_iload_n hx hb dX7_noEarth_0 rfl (lv_at hl 1 rfl) ?_
  refine lv_iconst (v := 0) hx hb dX7_noEarth_1 (by decide) ?_
  refine lv_aload_n hx hb dX7_noEarth_2 rfl (lv_at hl 0 rfl) ?_
  refine z_get C Y (Cn := RX7) (T := TX7) (N := 42) in_X7_noEarth_7 rfl (ge7_7 ..) 6 (by decide) fl_X7_noEarth_104 rfl dX7_noEarth_3 ?_
  refine lv_iconst (v := 1) hx hb dX7_noEarth_6 (by decide) ?_
  refine lv_isub hx hb dX7_noEarth_7 ?_
  refine z_callSi C Y (c_X7_in l hv) (zFr.nil _) (va_cwS 3 hts gX7_noEarth_X7_in rfl rfl rfl (by decide +kernel) ⟨(Nat.le_of_ble_eq_true rfl), (Nat.le_of_ble_eq_true rfl)⟩) rfl hl.1 rfl (Nat.le_of_ble_eq_true rfl) dX7_noEarth_8 ⟨Nat.zero_le _, Nat.zero_le _⟩ (fun r_1 _ H locs Y hv => ?_)
  refine lv_if_ne (tgt := 18) hx hb dX7_noEarth_11 (by decide) (fun hc => ?_) (fun hc => ?_)
  · have hv := hv.2 hc
    refine lv_iconst (v := 0) hx hb dX7_noEarth_18 (by decide) ?_
    exact hret Y (Or.inl rfl) hv dX7_noEarth_19
  · have hv := hv.1 hc
    refine lv_iconst (v := 1) hx hb dX7_noEarth_14 (by decide) ?_
    refine lv_goto (tgt := 19) hx hb dX7_noEarth_15 (by decide) ?_
    exact hret Y (Or.inr rfl) hv dX7_noEarth_19

end
abbrev TX7_noEarth := wp_X7_noEarth_0
set_option maxHeartbeats 4000000 in
set_option maxRecDepth 100000 in
theorem c_X7_noEarth (l : Launch) {D : va_G} {cI cZ cJ : ClassId} {a : Nat → Nat → Nat} {Q1 : Int32 → zSt → Prop} {p1 : Int32} {u7 : zSt} (hv : wp_X7_noEarth_0 Q1 p1 u7) : zMI l yX7_noEarth wsX7_noEarth ({ frames := 1, cells := 0, slots := 0, locals := 22 } : Room) D cI cZ cJ [.ref (a 7 99), .int p1] (k7 a cI cZ u7) (fun u : zSt => k7 a cI cZ u) Q1 :=
  z_ofZ (by decide) rfl rfl (Nat.le_of_ble_eq_true rfl) (fun C Y hl hret => bk_X7_noEarth_0 C Y hl hret hv)


theorem in_X7_bring_7 : ∀ w ∈ wsX70, w ∈ wsX7_bring := by first | exact fun w h => List.mem_cons_of_mem _ (List.mem_append_right _ h) | exact fun w h => List.mem_cons_of_mem _ (List.mem_append_left _ (List.mem_append_right _ h)) | decide +kernel
theorem fl_X7_bring_19 : Cond.fieldLink RX7 19 (TX7 5).1 (TX7 5).2.1 (TX7 5).2.2.1 ∈ wsX7_bring := by decide +kernel
theorem fl_X7_bring_93 : Cond.fieldLink RX7 93 (TX7 0).1 (TX7 0).2.1 (TX7 0).2.2.1 ∈ wsX7_bring := by decide +kernel
section
variable {p : Program} {l : Launch} {e : Env} {s : State} {m : MethodId} {args : Array Value} {below : List Frame} {meth : Method} {c : Code} {H : Heap} {locs : List Loc} {Q : State → Prop} {D : va_G} {cI cZ cJ : ClassId} {A : Nat → Prop} {ls : Array Slot}
def wp_X7_bring_49 (Q1 : Int32 → zSt → Prop) (x1 : Int32) (x2 : Int32) (t0 : Int32) (u7 : zSt) : Prop :=
  TX7_throwsIf (fun (r_2 : Int32) (u7_1 : zSt) => (r_2 = (0 : Int32) → vp_in x1 6 ∧ (vp_in x1 6 ∧ (∀ u7_3 : zSt, u7_3 = zA u7_1 5 (upd (u7_1.2 5) x1.toNatClampNeg ((u7_1.2 5 x1.toNatClampNeg) + x2)) → vp_in x1 6 ∧ (Q1 (u7_3.2 5 x1.toNatClampNeg) u7_3)))) ∧ (¬ r_2 = (0 : Int32) → Q1 0 u7_1)) t0 2 u7

set_option maxHeartbeats 4000000 in
set_option maxRecDepth 100000 in
theorem bk_X7_bring_49 {a : Nat → Nat → Nat} {Q1 : Int32 → zSt → Prop} {x1 : Int32} {x2 : Int32} {t0 : Int32} {u7 : zSt} (C : zCx p s m args c cX7_bring 3 RX7 wsX7_bring D cI cZ cJ A) (Y : zDy D A s.heap (k7 a cI cZ u7) H locs) (hl : lv_has ls 3 [(0, .ref (a 7 99)), (1, .int x1), (2, .int x2)]) (hret : ∀ {pc : Nat} {H : Heap} {locs : List Loc} {ls : Array Slot} {r : Int32} {u : zSt}, zDy D A s.heap ((fun u : zSt => k7 a cI cZ u) u) H locs → Q1 r u → decode cX7_bring pc = .ok (.ireturn, 1) → W p l e ({ frames := 2, cells := 0, slots := 0, locals := 43 } : Room) s m args below meth c H locs 0 0 Q (F0 m pc ls [.int r])) (hv : wp_X7_bring_49 Q1 x1 x2 t0 u7) : W p l e ({ frames := 2, cells := 0, slots := 0, locals := 43 } : Room) s m args below meth c H locs 0 0 Q (F0 m 49 ls [.int t0, .ref (a 7 99)]) := by
  unfold wp_X7_bring_49 at hv
  obtain ⟨hx, hb, hml, hown, hts, hK, hA⟩ := id C
  refine lv_iconst (v := 2) hx hb dX7_bring_49 (by decide) ?_
  refine z_callVi C Y (c_X7_throwsIf l hv) (zFr.self _ _) (cwV 2 hts gX7_bring_X7_throwsIf rfl rfl rfl (by decide +kernel) ⟨(Nat.le_of_ble_eq_true rfl), (Nat.le_of_ble_eq_true rfl)⟩) (ge7_7 ..) rfl rfl rfl hl.1 rfl (Nat.le_of_ble_eq_true rfl) dX7_bring_50 ⟨Nat.zero_le _, Nat.zero_le _⟩ (fun r_2 u7_1 H locs Y hv => ?_)
  refine lv_if_eq (tgt := 58) hx hb dX7_bring_53 (by decide) (fun hc => ?_) (fun hc => ?_)
  · have hv := hv.1 hc
    refine lv_aload_n hx hb dX7_bring_58 rfl (lv_at hl 0 rfl) ?_
    refine z_get C Y (Cn := RX7) (T := TX7) (N := 42) in_X7_bring_7 rfl (ge7_7 ..) 5 (by decide) fl_X7_bring_19 rfl dX7_bring_59 ?_
    refine lv_iload_n hx hb dX7_bring_62 rfl (lv_at hl 1 rfl) ?_
    refine lv_dup2_11 hx hb dX7_bring_63 rfl rfl ?_
    obtain ⟨hi, hv⟩ := hv
    refine z_ldI C Y (pa7_7_5 ..) hi dX7_bring_64 ?_
    refine lv_iload_n hx hb dX7_bring_65 rfl (lv_at hl 2 rfl) ?_
    refine lv_iadd hx hb dX7_bring_66 ?_
    obtain ⟨hi, hv⟩ := hv
    refine z_stI C Y (pa7_7_5 ..) (sa7_7_5 ..) hi dX7_bring_67 (fun H locs Y => ?_)
    obtain ⟨u7_3, eu7_3, Y, hv⟩ := z_nm (kf := fun z => (k7 a cI cZ z)) Y hv
    refine lv_aload_n hx hb dX7_bring_68 rfl (lv_at hl 0 rfl) ?_
    refine z_get C Y (Cn := RX7) (T := TX7) (N := 42) in_X7_bring_7 rfl (ge7_7 ..) 5 (by decide) fl_X7_bring_19 rfl dX7_bring_69 ?_
    refine lv_iload_n hx hb dX7_bring_72 rfl (lv_at hl 1 rfl) ?_
    obtain ⟨hi, hv⟩ := hv
    refine z_ldI C Y (pa7_7_5 ..) hi dX7_bring_73 ?_
    exact hret Y hv dX7_bring_74
  · have hv := hv.2 hc
    refine lv_iconst (v := 0) hx hb dX7_bring_56 (by decide) ?_
    exact hret Y hv dX7_bring_57

def wp_X7_bring_44 (Q1 : Int32 → zSt → Prop) (x1 : Int32) (x2 : Int32) (u7 : zSt) : Prop :=
  wp_X7_bring_49 Q1 x1 x2 1 u7

set_option maxHeartbeats 4000000 in
set_option maxRecDepth 100000 in
theorem bk_X7_bring_44 {a : Nat → Nat → Nat} {Q1 : Int32 → zSt → Prop} {x1 : Int32} {x2 : Int32} {u7 : zSt} (C : zCx p s m args c cX7_bring 3 RX7 wsX7_bring D cI cZ cJ A) (Y : zDy D A s.heap (k7 a cI cZ u7) H locs) (hl : lv_has ls 3 [(0, .ref (a 7 99)), (1, .int x1), (2, .int x2)]) (hret : ∀ {pc : Nat} {H : Heap} {locs : List Loc} {ls : Array Slot} {r : Int32} {u : zSt}, zDy D A s.heap ((fun u : zSt => k7 a cI cZ u) u) H locs → Q1 r u → decode cX7_bring pc = .ok (.ireturn, 1) → W p l e ({ frames := 2, cells := 0, slots := 0, locals := 43 } : Room) s m args below meth c H locs 0 0 Q (F0 m pc ls [.int r])) (hv : wp_X7_bring_44 Q1 x1 x2 u7) : W p l e ({ frames := 2, cells := 0, slots := 0, locals := 43 } : Room) s m args below meth c H locs 0 0 Q (F0 m 44 ls [.ref (a 7 99)]) := by
  unfold wp_X7_bring_44 at hv
  obtain ⟨hx, hb, hml, hown, hts, hK, hA⟩ := id C
  refine lv_iconst (v := 1) hx hb dX7_bring_44 (by decide) ?_
  refine lv_goto (tgt := 49) hx hb dX7_bring_45 (by decide) ?_
  exact bk_X7_bring_49 C Y (lv_sub hl [0, 1, 2] rfl) hret hv

def wp_X7_bring_0 (Q1 : Int32 → zSt → Prop) (p1 : Int32) (p2 : Int32) (u7 : zSt) : Prop :=
  ∀ u7_1 : zSt, u7_1 = zI u7 0 0 → TX7_noEarth (fun (r_3 : Int32) (u7_2 : zSt) => TX7_throwsIf (fun (r_5 : Int32) (u7_4 : zSt) => (r_5 = (0 : Int32) → TX7_in (fun (r_6 : Int32) (_ : Unit) => (r_6 = (0 : Int32) → wp_X7_bring_44 Q1 p1 p2 u7_4) ∧ (¬ r_6 = (0 : Int32) → vp_in p1 6 ∧ ((((u7_4.2 5 p1.toNatClampNeg) + p2) ≤ (1000 : Int32) → wp_X7_bring_49 Q1 p1 p2 0 u7_4) ∧ (¬ ((u7_4.2 5 p1.toNatClampNeg) + p2) ≤ (1000 : Int32) → wp_X7_bring_44 Q1 p1 p2 u7_4)))) p2 0 1000 ) ∧ (¬ r_5 = (0 : Int32) → Q1 0 u7_4)) r_3 1 u7_2) p1 u7_1

set_option maxHeartbeats 4000000 in
set_option maxRecDepth 100000 in
theorem bk_X7_bring_0 {a : Nat → Nat → Nat} {Q1 : Int32 → zSt → Prop} {p1 : Int32} {p2 : Int32} {u7 : zSt} (C : zCx p s m args c cX7_bring 3 RX7 wsX7_bring D cI cZ cJ A) (Y : zDy D A s.heap (k7 a cI cZ u7) H locs) (hl : lv_has ls 3 [(0, .ref (a 7 99)), (1, .int p1), (2, .int p2)]) (hret : ∀ {pc : Nat} {H : Heap} {locs : List Loc} {ls : Array Slot} {r : Int32} {u : zSt}, zDy D A s.heap ((fun u : zSt => k7 a cI cZ u) u) H locs → Q1 r u → decode cX7_bring pc = .ok (.ireturn, 1) → W p l e ({ frames := 2, cells := 0, slots := 0, locals := 43 } : Room) s m args below meth c H locs 0 0 Q (F0 m pc ls [.int r])) (hv : wp_X7_bring_0 Q1 p1 p2 u7) : W p l e ({ frames := 2, cells := 0, slots := 0, locals := 43 } : Room) s m args below meth c H locs 0 0 Q (F0 m 0 ls []) := by
  unfold wp_X7_bring_0 at hv
  obtain ⟨hx, hb, hml, hown, hts, hK, hA⟩ := id C
  refine lv_aload_n hx hb dX7_bring_0 rfl (lv_at hl 0 rfl) ?_
  refine lv_iconst (v := 0) hx hb dX7_bring_1 (by decide) ?_
  refine z_putI C Y (Cn := RX7) (T := TX7) (N := 42) in_X7_bring_7 rfl tyX7 tyX7_ok nmX7 (ge7_7 ..) 0 (by decide) fl_X7_bring_93 rfl (by decide +kernel) (Nat.le_of_ble_eq_true rfl) (si7_7_0 ..) dX7_bring_2 (fun H locs Y => ?_)
  obtain ⟨u7_1, eu7_1, Y, hv⟩ := z_nm (kf := fun z => (k7 a cI cZ z)) Y hv
  refine lv_aload_n hx hb dX7_bring_5 rfl (lv_at hl 0 rfl) ?_
  refine lv_aload_n hx hb dX7_bring_6 rfl (lv_at hl 0 rfl) ?_
  refine lv_iload_n hx hb dX7_bring_7 rfl (lv_at hl 1 rfl) ?_
  refine z_callVi C Y (c_X7_noEarth l hv) (zFr.self _ _) (cwV 1 hts gX7_bring_X7_noEarth rfl rfl rfl (by decide +kernel) ⟨(Nat.le_of_ble_eq_true rfl), (Nat.le_of_ble_eq_true rfl)⟩) (ge7_7 ..) rfl rfl rfl hl.1 rfl (Nat.le_of_ble_eq_true rfl) dX7_bring_8 ⟨Nat.zero_le _, Nat.zero_le _⟩ (fun r_3 u7_2 H locs Y hv => ?_)
  refine lv_iconst (v := 1) hx hb dX7_bring_11 (by decide) ?_
  refine z_callVi C Y (c_X7_throwsIf l hv) (zFr.self _ _) (cwV 2 hts gX7_bring_X7_throwsIf rfl rfl rfl (by decide +kernel) ⟨(Nat.le_of_ble_eq_true rfl), (Nat.le_of_ble_eq_true rfl)⟩) (ge7_7 ..) rfl rfl rfl hl.1 rfl (Nat.le_of_ble_eq_true rfl) dX7_bring_12 ⟨Nat.zero_le _, Nat.zero_le _⟩ (fun r_5 u7_4 H locs Y hv => ?_)
  refine lv_if_ne (tgt := 56) hx hb dX7_bring_15 (by decide) (fun hc => ?_) (fun hc => ?_)
  · have hv := hv.2 hc
    refine lv_iconst (v := 0) hx hb dX7_bring_56 (by decide) ?_
    exact hret Y hv dX7_bring_57
  · have hv := hv.1 hc
    refine lv_aload_n hx hb dX7_bring_18 rfl (lv_at hl 0 rfl) ?_
    refine lv_iload_n hx hb dX7_bring_19 rfl (lv_at hl 2 rfl) ?_
    refine lv_iconst (v := 0) hx hb dX7_bring_20 (by decide) ?_
    refine lv_sipush (v := 1000) hx hb dX7_bring_21 (by decide) ?_
    refine z_callSi C Y (c_X7_in l hv) (zFr.nil _) (va_cwS 3 hts gX7_bring_X7_in rfl rfl rfl (by decide +kernel) ⟨(Nat.le_of_ble_eq_true rfl), (Nat.le_of_ble_eq_true rfl)⟩) rfl hl.1 rfl (Nat.le_of_ble_eq_true rfl) dX7_bring_24 ⟨Nat.zero_le _, Nat.zero_le _⟩ (fun r_6 _ H locs Y hv => ?_)
    refine lv_if_eq (tgt := 44) hx hb dX7_bring_27 (by decide) (fun hc => ?_) (fun hc => ?_)
    · have hv := hv.1 hc
      exact bk_X7_bring_44 C Y (lv_sub hl [0, 1, 2] rfl) hret hv
    · have hv := hv.2 hc
      refine lv_aload_n hx hb dX7_bring_30 rfl (lv_at hl 0 rfl) ?_
      refine z_get C Y (Cn := RX7) (T := TX7) (N := 42) in_X7_bring_7 rfl (ge7_7 ..) 5 (by decide) fl_X7_bring_19 rfl dX7_bring_31 ?_
      refine lv_iload_n hx hb dX7_bring_34 rfl (lv_at hl 1 rfl) ?_
      obtain ⟨hi, hv⟩ := hv
      refine z_ldI C Y (pa7_7_5 ..) hi dX7_bring_35 ?_
      refine lv_iload_n hx hb dX7_bring_36 rfl (lv_at hl 2 rfl) ?_
      refine lv_iadd hx hb dX7_bring_37 ?_
      refine lv_sipush (v := 1000) hx hb dX7_bring_38 (by decide) ?_
      refine lv_icmp_le (tgt := 48) hx hb dX7_bring_41 (by decide) (fun hc => ?_) (fun hc => ?_)
      · have hv := hv.1 hc
        refine lv_iconst (v := 0) hx hb dX7_bring_48 (by decide) ?_
        exact bk_X7_bring_49 C Y (lv_sub hl [0, 1, 2] rfl) hret hv
      · have hv := hv.2 hc
        exact bk_X7_bring_44 C Y (lv_sub hl [0, 1, 2] rfl) hret hv

end
abbrev TX7_bring := wp_X7_bring_0
set_option maxHeartbeats 4000000 in
set_option maxRecDepth 100000 in
theorem c_X7_bring (l : Launch) {D : va_G} {cI cZ cJ : ClassId} {a : Nat → Nat → Nat} {Q1 : Int32 → zSt → Prop} {p1 : Int32} {p2 : Int32} {u7 : zSt} (hv : wp_X7_bring_0 Q1 p1 p2 u7) : zMI l yX7_bring wsX7_bring ({ frames := 2, cells := 0, slots := 0, locals := 43 } : Room) D cI cZ cJ [.ref (a 7 99), .int p1, .int p2] (k7 a cI cZ u7) (fun u : zSt => k7 a cI cZ u) Q1 :=
  z_ofI (by decide) rfl rfl (Nat.le_of_ble_eq_true rfl) (fun C Y hl hret => bk_X7_bring_0 C Y hl hret hv)


theorem in_X7_goes_7 : ∀ w ∈ wsX70, w ∈ wsX7_goes := by first | exact fun w h => List.mem_cons_of_mem _ (List.mem_append_right _ h) | exact fun w h => List.mem_cons_of_mem _ (List.mem_append_left _ (List.mem_append_right _ h)) | decide +kernel
theorem fl_X7_goes_9 : Cond.fieldLink RX7 9 (TX7 2).1 (TX7 2).2.1 (TX7 2).2.2.1 ∈ wsX7_goes := by decide +kernel
theorem fl_X7_goes_13 : Cond.fieldLink RX7 13 (TX7 3).1 (TX7 3).2.1 (TX7 3).2.2.1 ∈ wsX7_goes := by decide +kernel
theorem fl_X7_goes_16 : Cond.fieldLink RX7 16 (TX7 4).1 (TX7 4).2.1 (TX7 4).2.2.1 ∈ wsX7_goes := by decide +kernel
theorem fl_X7_goes_19 : Cond.fieldLink RX7 19 (TX7 5).1 (TX7 5).2.1 (TX7 5).2.2.1 ∈ wsX7_goes := by decide +kernel
theorem fl_X7_goes_22 : Cond.fieldLink RX7 22 (TX7 7).1 (TX7 7).2.1 (TX7 7).2.2.1 ∈ wsX7_goes := by decide +kernel
theorem fl_X7_goes_25 : Cond.fieldLink RX7 25 (TX7 8).1 (TX7 8).2.1 (TX7 8).2.2.1 ∈ wsX7_goes := by decide +kernel
theorem fl_X7_goes_104 : Cond.fieldLink RX7 104 (TX7 6).1 (TX7 6).2.1 (TX7 6).2.2.1 ∈ wsX7_goes := by decide +kernel
theorem fl_X7_goes_111 : Cond.fieldLink RX7 111 (TX7 9).1 (TX7 9).2.1 (TX7 9).2.2.1 ∈ wsX7_goes := by decide +kernel
theorem fl_X7_goes_114 : Cond.fieldLink RX7 114 (TX7 10).1 (TX7 10).2.1 (TX7 10).2.2.1 ∈ wsX7_goes := by decide +kernel
theorem fl_X7_goes_117 : Cond.fieldLink RX7 117 (TX7 11).1 (TX7 11).2.1 (TX7 11).2.2.1 ∈ wsX7_goes := by decide +kernel
section
variable {p : Program} {l : Launch} {e : Env} {s : State} {m : MethodId} {args : Array Value} {below : List Frame} {meth : Method} {c : Code} {H : Heap} {locs : List Loc} {Q : State → Prop} {D : va_G} {cI cZ cJ : ClassId} {A : Nat → Prop} {ls : Array Slot}
def wp_X7_goes_54 (TX7_goes : (zSt → Prop) → Int32 → Int32 → Int32 → Int32 → Int32 → Int32 → Int32 → zSt → Prop) (J85 : Int32 → zSt → Prop) (J118 : Int32 → Int32 → Int32 → Int32 → Int32 → Int32 → Int32 → Int32 → zSt → Prop) (Q1 : zSt → Prop) (x3 : Int32) (x4 : Int32) (x5 : Int32) (u7 : zSt) : Prop :=
  ∀ u7_1 : zSt, u7_1 = zI u7 9 x5 → ∀ u7_2 : zSt, u7_2 = zI u7_1 10 (x3 / 10) → ∀ u7_3 : zSt, u7_3 = zI u7_2 11 (((x4 + 10) - 1) / 10) → ∀ x8_4 : Int32, x8_4 = 0 → J85 x8_4 u7_3

set_option maxHeartbeats 4000000 in
set_option maxRecDepth 100000 in
theorem bk_X7_goes_54 {d : Nat} {a : Nat → Nat → Nat} {TX7_goes : (zSt → Prop) → Int32 → Int32 → Int32 → Int32 → Int32 → Int32 → Int32 → zSt → Prop} {J85 : Int32 → zSt → Prop} {J118 : Int32 → Int32 → Int32 → Int32 → Int32 → Int32 → Int32 → Int32 → zSt → Prop} {Q1 : zSt → Prop} {x3 : Int32} {x4 : Int32} {x5 : Int32} {u7 : zSt} (C : zCx p s m args c cX7_goes 9 RX7 wsX7_goes D cI cZ cJ A) (Y : zDy D A s.heap (k7 a cI cZ u7) H locs) (hl : lv_has ls 9 [(0, .ref (a 7 99)), (3, .int x3), (4, .int x4), (5, .int x5)]) (hr_X7_goes : (∀ (Q1 : zSt → Prop) (p1 : Int32) (p2 : Int32) (p3 : Int32) (p4 : Int32) (p5 : Int32) (p6 : Int32) (p7 : Int32) (u7 : zSt), TX7_goes Q1 p1 p2 p3 p4 p5 p6 p7 u7 → zMV l yX7_goes wsX7_goes (rmG d) D cI cZ cJ [.ref (a 7 99), .int p1, .int p2, .int p3, .int p4, .int p5, .int p6, .int p7] (k7 a cI cZ u7) (fun u : zSt => k7 a cI cZ u) Q1)) (hret : ∀ {pc : Nat} {H : Heap} {locs : List Loc} {ls : Array Slot} {u : zSt}, zDy D A s.heap ((fun u : zSt => k7 a cI cZ u) u) H locs → Q1 u → decode cX7_goes pc = .ok (.return_, 1) → W p l e (rmG (d + 1)) s m args below meth c H locs 0 0 Q (F0 m pc ls [])) (hJ85 : ∀ (x8 : Int32) (u7 : zSt) (H : Heap) (locs : List Loc) (ls : Array Slot), J85 x8 u7 → zDy D A s.heap (k7 a cI cZ u7) H locs → lv_has ls 9 [(0, .ref (a 7 99)), (8, .int x8)] → W p l e (rmG (d + 1)) s m args below meth c H locs 0 0 Q (F0 m 85 ls [])) (hJ118 : ∀ (x1 : Int32) (x2 : Int32) (x3 : Int32) (x4 : Int32) (x5 : Int32) (x6 : Int32) (x7 : Int32) (x8 : Int32) (u7 : zSt) (H : Heap) (locs : List Loc) (ls : Array Slot), J118 x1 x2 x3 x4 x5 x6 x7 x8 u7 → zDy D A s.heap (k7 a cI cZ u7) H locs → lv_has ls 9 [(0, .ref (a 7 99)), (1, .int x1), (2, .int x2), (3, .int x3), (4, .int x4), (5, .int x5), (6, .int x6), (7, .int x7), (8, .int x8)] → W p l e (rmG (d + 1)) s m args below meth c H locs 0 0 Q (F0 m 118 ls [])) (hv : wp_X7_goes_54 TX7_goes J85 J118 Q1 x3 x4 x5 u7) : W p l e (rmG (d + 1)) s m args below meth c H locs 0 0 Q (F0 m 54 ls []) := by
  unfold wp_X7_goes_54 at hv
  obtain ⟨hx, hb, hml, hown, hts, hK, hA⟩ := id C
  refine lv_aload_n hx hb dX7_goes_54 rfl (lv_at hl 0 rfl) ?_
  refine lv_iload hx hb dX7_goes_55 (lv_at hl 3 rfl) ?_
  refine z_putI C Y (Cn := RX7) (T := TX7) (N := 42) in_X7_goes_7 rfl tyX7 tyX7_ok nmX7 (ge7_7 ..) 9 (by decide) fl_X7_goes_111 rfl (by decide +kernel) (Nat.le_of_ble_eq_true rfl) (si7_7_9 ..) dX7_goes_57 (fun H locs Y => ?_)
  obtain ⟨u7_1, eu7_1, Y, hv⟩ := z_nm (kf := fun z => (k7 a cI cZ z)) Y hv
  refine lv_aload_n hx hb dX7_goes_60 rfl (lv_at hl 0 rfl) ?_
  refine lv_iload_n hx hb dX7_goes_61 rfl (lv_at hl 1 rfl) ?_
  refine lv_bipush (v := 10) hx hb dX7_goes_62 (by decide) ?_
  refine lv_idiv hx hb dX7_goes_64 (by decide) ?_
  refine z_putI C Y (Cn := RX7) (T := TX7) (N := 42) in_X7_goes_7 rfl tyX7 tyX7_ok nmX7 (ge7_7 ..) 10 (by decide) fl_X7_goes_114 rfl (by decide +kernel) (Nat.le_of_ble_eq_true rfl) (si7_7_10 ..) dX7_goes_65 (fun H locs Y => ?_)
  obtain ⟨u7_2, eu7_2, Y, hv⟩ := z_nm (kf := fun z => (k7 a cI cZ z)) Y hv
  refine lv_aload_n hx hb dX7_goes_68 rfl (lv_at hl 0 rfl) ?_
  refine lv_iload hx hb dX7_goes_69 (lv_at hl 2 rfl) ?_
  refine lv_bipush (v := 10) hx hb dX7_goes_71 (by decide) ?_
  refine lv_iadd hx hb dX7_goes_73 ?_
  refine lv_iconst (v := 1) hx hb dX7_goes_74 (by decide) ?_
  refine lv_isub hx hb dX7_goes_75 ?_
  refine lv_bipush (v := 10) hx hb dX7_goes_76 (by decide) ?_
  refine lv_idiv hx hb dX7_goes_78 (by decide) ?_
  refine z_putI C Y (Cn := RX7) (T := TX7) (N := 42) in_X7_goes_7 rfl tyX7 tyX7_ok nmX7 (ge7_7 ..) 11 (by decide) fl_X7_goes_117 rfl (by decide +kernel) (Nat.le_of_ble_eq_true rfl) (si7_7_11 ..) dX7_goes_79 (fun H locs Y => ?_)
  obtain ⟨u7_3, eu7_3, Y, hv⟩ := z_nm (kf := fun z => (k7 a cI cZ z)) Y hv
  refine lv_iconst (v := 0) hx hb dX7_goes_82 (by decide) ?_
  refine z_topi hv (fun x8_4 ex8_4 hv => ?_)
  refine lv_istore (lv' := [(8, .int x8_4), (0, .ref (a 7 99)), (3, .int x3), (4, .int x4), (5, .int x5)]) hx hb dX7_goes_83 hl (by decide) rfl (fun ls hl => ?_)
  exact hJ85 _ _ _ _ _ hv Y (lv_sub hl [1, 0] rfl)

def wp_X7_goes_0 (TX7_goes : (zSt → Prop) → Int32 → Int32 → Int32 → Int32 → Int32 → Int32 → Int32 → zSt → Prop) (J85 : Int32 → zSt → Prop) (J118 : Int32 → Int32 → Int32 → Int32 → Int32 → Int32 → Int32 → Int32 → zSt → Prop) (Q1 : zSt → Prop) (p1 : Int32) (p2 : Int32) (p3 : Int32) (p4 : Int32) (p5 : Int32) (p6 : Int32) (p7 : Int32) (u7 : zSt) : Prop :=
  (p1 = (u7.1 6) → ((0 : Int32) < p2 → Q1 u7) ∧ (¬ (0 : Int32) < p2 → ((p3 / 10) < p6 → Q1 u7) ∧ (¬ (p3 / 10) < p6 → (p7 < (((p4 + 10) - 1) / 10) → Q1 u7) ∧ (¬ p7 < (((p4 + 10) - 1) / 10) → ((u7.1 9) = (-1 : Int32) → wp_X7_goes_54 TX7_goes J85 J118 Q1 p3 p4 p5 u7) ∧ (¬ (u7.1 9) = (-1 : Int32) → (p5 < (u7.1 9) → wp_X7_goes_54 TX7_goes J85 J118 Q1 p3 p4 p5 u7) ∧ (¬ p5 < (u7.1 9) → Q1 u7)))))) ∧ (¬ p1 = (u7.1 6) → ∀ x8_1 : Int32, x8_1 = 0 → J118 p1 p2 p3 p4 p5 p6 p7 x8_1 u7)

set_option maxHeartbeats 4000000 in
set_option maxRecDepth 100000 in
theorem bk_X7_goes_0 {d : Nat} {a : Nat → Nat → Nat} {TX7_goes : (zSt → Prop) → Int32 → Int32 → Int32 → Int32 → Int32 → Int32 → Int32 → zSt → Prop} {J85 : Int32 → zSt → Prop} {J118 : Int32 → Int32 → Int32 → Int32 → Int32 → Int32 → Int32 → Int32 → zSt → Prop} {Q1 : zSt → Prop} {p1 : Int32} {p2 : Int32} {p3 : Int32} {p4 : Int32} {p5 : Int32} {p6 : Int32} {p7 : Int32} {u7 : zSt} (C : zCx p s m args c cX7_goes 9 RX7 wsX7_goes D cI cZ cJ A) (Y : zDy D A s.heap (k7 a cI cZ u7) H locs) (hl : lv_has ls 9 [(0, .ref (a 7 99)), (1, .int p1), (2, .int p2), (3, .int p3), (4, .int p4), (5, .int p5), (6, .int p6), (7, .int p7)]) (hr_X7_goes : (∀ (Q1 : zSt → Prop) (p1 : Int32) (p2 : Int32) (p3 : Int32) (p4 : Int32) (p5 : Int32) (p6 : Int32) (p7 : Int32) (u7 : zSt), TX7_goes Q1 p1 p2 p3 p4 p5 p6 p7 u7 → zMV l yX7_goes wsX7_goes (rmG d) D cI cZ cJ [.ref (a 7 99), .int p1, .int p2, .int p3, .int p4, .int p5, .int p6, .int p7] (k7 a cI cZ u7) (fun u : zSt => k7 a cI cZ u) Q1)) (hret : ∀ {pc : Nat} {H : Heap} {locs : List Loc} {ls : Array Slot} {u : zSt}, zDy D A s.heap ((fun u : zSt => k7 a cI cZ u) u) H locs → Q1 u → decode cX7_goes pc = .ok (.return_, 1) → W p l e (rmG (d + 1)) s m args below meth c H locs 0 0 Q (F0 m pc ls [])) (hJ85 : ∀ (x8 : Int32) (u7 : zSt) (H : Heap) (locs : List Loc) (ls : Array Slot), J85 x8 u7 → zDy D A s.heap (k7 a cI cZ u7) H locs → lv_has ls 9 [(0, .ref (a 7 99)), (8, .int x8)] → W p l e (rmG (d + 1)) s m args below meth c H locs 0 0 Q (F0 m 85 ls [])) (hJ118 : ∀ (x1 : Int32) (x2 : Int32) (x3 : Int32) (x4 : Int32) (x5 : Int32) (x6 : Int32) (x7 : Int32) (x8 : Int32) (u7 : zSt) (H : Heap) (locs : List Loc) (ls : Array Slot), J118 x1 x2 x3 x4 x5 x6 x7 x8 u7 → zDy D A s.heap (k7 a cI cZ u7) H locs → lv_has ls 9 [(0, .ref (a 7 99)), (1, .int x1), (2, .int x2), (3, .int x3), (4, .int x4), (5, .int x5), (6, .int x6), (7, .int x7), (8, .int x8)] → W p l e (rmG (d + 1)) s m args below meth c H locs 0 0 Q (F0 m 118 ls [])) (hv : wp_X7_goes_0 TX7_goes J85 J118 Q1 p1 p2 p3 p4 p5 p6 p7 u7) : W p l e (rmG (d + 1)) s m args below meth c H locs 0 0 Q (F0 m 0 ls []) := by
  unfold wp_X7_goes_0 at hv
  obtain ⟨hx, hb, hml, hown, hts, hK, hA⟩ := id C
  refine lv_iload_n hx hb dX7_goes_0 rfl (lv_at hl 1 rfl) ?_
  refine lv_aload_n hx hb dX7_goes_1 rfl (lv_at hl 0 rfl) ?_
  refine z_get C Y (Cn := RX7) (T := TX7) (N := 42) in_X7_goes_7 rfl (ge7_7 ..) 6 (by decide) fl_X7_goes_104 rfl dX7_goes_2 ?_
  refine lv_icmp_ne (tgt := 115) hx hb dX7_goes_5 (by decide) (fun hc => ?_) (fun hc => ?_)
  · have hv := hv.2 hc
    refine lv_iconst (v := 0) hx hb dX7_goes_115 (by decide) ?_
    refine z_topi hv (fun x8_1 ex8_1 hv => ?_)
    refine lv_istore (lv' := [(8, .int x8_1), (0, .ref (a 7 99)), (1, .int p1), (2, .int p2), (3, .int p3), (4, .int p4), (5, .int p5), (6, .int p6), (7, .int p7)]) hx hb dX7_goes_116 hl (by decide) rfl (fun ls hl => ?_)
    exact hJ118 _ _ _ _ _ _ _ _ _ _ _ _ hv Y (lv_sub hl [1, 2, 3, 4, 5, 6, 7, 8, 0] rfl)
  · have hv := hv.1 hc
    refine lv_iload_n hx hb dX7_goes_8 rfl (lv_at hl 2 rfl) ?_
    refine lv_if_gt (tgt := 53) hx hb dX7_goes_9 (by decide) (fun hc => ?_) (fun hc => ?_)
    · have hv := hv.1 hc
      exact hret Y hv dX7_goes_53
    · have hv := hv.2 hc
      refine lv_iload_n hx hb dX7_goes_12 rfl (lv_at hl 3 rfl) ?_
      refine lv_bipush (v := 10) hx hb dX7_goes_13 (by decide) ?_
      refine lv_idiv hx hb dX7_goes_15 (by decide) ?_
      refine lv_iload hx hb dX7_goes_16 (lv_at hl 6 rfl) ?_
      refine lv_icmp_lt (tgt := 53) hx hb dX7_goes_18 (by decide) (fun hc => ?_) (fun hc => ?_)
      · have hv := hv.1 hc
        exact hret Y hv dX7_goes_53
      · have hv := hv.2 hc
        refine lv_iload hx hb dX7_goes_21 (lv_at hl 4 rfl) ?_
        refine lv_bipush (v := 10) hx hb dX7_goes_23 (by decide) ?_
        refine lv_iadd hx hb dX7_goes_25 ?_
        refine lv_iconst (v := 1) hx hb dX7_goes_26 (by decide) ?_
        refine lv_isub hx hb dX7_goes_27 ?_
        refine lv_bipush (v := 10) hx hb dX7_goes_28 (by decide) ?_
        refine lv_idiv hx hb dX7_goes_30 (by decide) ?_
        refine lv_iload hx hb dX7_goes_31 (lv_at hl 7 rfl) ?_
        refine lv_icmp_gt (tgt := 53) hx hb dX7_goes_33 (by decide) (fun hc => ?_) (fun hc => ?_)
        · have hv := hv.1 hc
          exact hret Y hv dX7_goes_53
        · have hv := hv.2 hc
          refine lv_aload_n hx hb dX7_goes_36 rfl (lv_at hl 0 rfl) ?_
          refine z_get C Y (Cn := RX7) (T := TX7) (N := 42) in_X7_goes_7 rfl (ge7_7 ..) 9 (by decide) fl_X7_goes_111 rfl dX7_goes_37 ?_
          refine lv_iconst (v := (-1)) hx hb dX7_goes_40 (by decide) ?_
          refine lv_icmp_eq (tgt := 54) hx hb dX7_goes_41 (by decide) (fun hc => ?_) (fun hc => ?_)
          · have hv := hv.1 hc
            exact bk_X7_goes_54 C Y (lv_sub hl [0, 3, 4, 5] rfl) hr_X7_goes hret hJ85 hJ118 hv
          · have hv := hv.2 hc
            refine lv_iload hx hb dX7_goes_44 (lv_at hl 5 rfl) ?_
            refine lv_aload_n hx hb dX7_goes_46 rfl (lv_at hl 0 rfl) ?_
            refine z_get C Y (Cn := RX7) (T := TX7) (N := 42) in_X7_goes_7 rfl (ge7_7 ..) 9 (by decide) fl_X7_goes_111 rfl dX7_goes_47 ?_
            refine lv_icmp_lt (tgt := 54) hx hb dX7_goes_50 (by decide) (fun hc => ?_) (fun hc => ?_)
            · have hv := hv.1 hc
              exact bk_X7_goes_54 C Y (lv_sub hl [0, 3, 4, 5] rfl) hr_X7_goes hret hJ85 hJ118 hv
            · have hv := hv.2 hc
              exact hret Y hv dX7_goes_53

def wp_X7_goes_85 (TX7_goes : (zSt → Prop) → Int32 → Int32 → Int32 → Int32 → Int32 → Int32 → Int32 → zSt → Prop) (J85 : Int32 → zSt → Prop) (J118 : Int32 → Int32 → Int32 → Int32 → Int32 → Int32 → Int32 → Int32 → zSt → Prop) (Q1 : zSt → Prop) (x8 : Int32) (u7 : zSt) : Prop :=
  ((u7.1 6) ≤ x8 → Q1 u7) ∧ (¬ (u7.1 6) ≤ x8 → vp_in x8 6 ∧ (vp_in x8 6 ∧ (∀ u7_1 : zSt, u7_1 = zA u7 8 (upd (u7.2 8) x8.toNatClampNeg (u7.2 7 x8.toNatClampNeg)) → ∀ x8_2 : Int32, x8_2 = x8 + 1 → J85 x8_2 u7_1)))

set_option maxHeartbeats 4000000 in
set_option maxRecDepth 100000 in
theorem bk_X7_goes_85 {d : Nat} {a : Nat → Nat → Nat} {TX7_goes : (zSt → Prop) → Int32 → Int32 → Int32 → Int32 → Int32 → Int32 → Int32 → zSt → Prop} {J85 : Int32 → zSt → Prop} {J118 : Int32 → Int32 → Int32 → Int32 → Int32 → Int32 → Int32 → Int32 → zSt → Prop} {Q1 : zSt → Prop} {x8 : Int32} {u7 : zSt} (C : zCx p s m args c cX7_goes 9 RX7 wsX7_goes D cI cZ cJ A) (Y : zDy D A s.heap (k7 a cI cZ u7) H locs) (hl : lv_has ls 9 [(0, .ref (a 7 99)), (8, .int x8)]) (hr_X7_goes : (∀ (Q1 : zSt → Prop) (p1 : Int32) (p2 : Int32) (p3 : Int32) (p4 : Int32) (p5 : Int32) (p6 : Int32) (p7 : Int32) (u7 : zSt), TX7_goes Q1 p1 p2 p3 p4 p5 p6 p7 u7 → zMV l yX7_goes wsX7_goes (rmG d) D cI cZ cJ [.ref (a 7 99), .int p1, .int p2, .int p3, .int p4, .int p5, .int p6, .int p7] (k7 a cI cZ u7) (fun u : zSt => k7 a cI cZ u) Q1)) (hret : ∀ {pc : Nat} {H : Heap} {locs : List Loc} {ls : Array Slot} {u : zSt}, zDy D A s.heap ((fun u : zSt => k7 a cI cZ u) u) H locs → Q1 u → decode cX7_goes pc = .ok (.return_, 1) → W p l e (rmG (d + 1)) s m args below meth c H locs 0 0 Q (F0 m pc ls [])) (hJ85 : ∀ (x8 : Int32) (u7 : zSt) (H : Heap) (locs : List Loc) (ls : Array Slot), J85 x8 u7 → zDy D A s.heap (k7 a cI cZ u7) H locs → lv_has ls 9 [(0, .ref (a 7 99)), (8, .int x8)] → W p l e (rmG (d + 1)) s m args below meth c H locs 0 0 Q (F0 m 85 ls [])) (hJ118 : ∀ (x1 : Int32) (x2 : Int32) (x3 : Int32) (x4 : Int32) (x5 : Int32) (x6 : Int32) (x7 : Int32) (x8 : Int32) (u7 : zSt) (H : Heap) (locs : List Loc) (ls : Array Slot), J118 x1 x2 x3 x4 x5 x6 x7 x8 u7 → zDy D A s.heap (k7 a cI cZ u7) H locs → lv_has ls 9 [(0, .ref (a 7 99)), (1, .int x1), (2, .int x2), (3, .int x3), (4, .int x4), (5, .int x5), (6, .int x6), (7, .int x7), (8, .int x8)] → W p l e (rmG (d + 1)) s m args below meth c H locs 0 0 Q (F0 m 118 ls [])) (hv : wp_X7_goes_85 TX7_goes J85 J118 Q1 x8 u7) : W p l e (rmG (d + 1)) s m args below meth c H locs 0 0 Q (F0 m 85 ls []) := by
  unfold wp_X7_goes_85 at hv
  obtain ⟨hx, hb, hml, hown, hts, hK, hA⟩ := id C
  refine lv_iload hx hb dX7_goes_85 (lv_at hl 1 rfl) ?_
  refine lv_aload_n hx hb dX7_goes_87 rfl (lv_at hl 0 rfl) ?_
  refine z_get C Y (Cn := RX7) (T := TX7) (N := 42) in_X7_goes_7 rfl (ge7_7 ..) 6 (by decide) fl_X7_goes_104 rfl dX7_goes_88 ?_
  refine lv_icmp_ge (tgt := 114) hx hb dX7_goes_91 (by decide) (fun hc => ?_) (fun hc => ?_)
  · have hv := hv.1 hc
    exact hret Y hv dX7_goes_114
  · have hv := hv.2 hc
    refine lv_aload_n hx hb dX7_goes_94 rfl (lv_at hl 0 rfl) ?_
    refine z_get C Y (Cn := RX7) (T := TX7) (N := 42) in_X7_goes_7 rfl (ge7_7 ..) 8 (by decide) fl_X7_goes_25 rfl dX7_goes_95 ?_
    refine lv_iload hx hb dX7_goes_98 (lv_at hl 1 rfl) ?_
    refine lv_aload_n hx hb dX7_goes_100 rfl (lv_at hl 0 rfl) ?_
    refine z_get C Y (Cn := RX7) (T := TX7) (N := 42) in_X7_goes_7 rfl (ge7_7 ..) 7 (by decide) fl_X7_goes_22 rfl dX7_goes_101 ?_
    refine lv_iload hx hb dX7_goes_104 (lv_at hl 1 rfl) ?_
    obtain ⟨hi, hv⟩ := hv
    refine z_ldI C Y (pa7_7_7 ..) hi dX7_goes_106 ?_
    obtain ⟨hi, hv⟩ := hv
    refine z_stI C Y (pa7_7_8 ..) (sa7_7_8 ..) hi dX7_goes_107 (fun H locs Y => ?_)
    obtain ⟨u7_1, eu7_1, Y, hv⟩ := z_nm (kf := fun z => (k7 a cI cZ z)) Y hv
    obtain ⟨x8_2, ex8_2, hv⟩ := z_nv hv
    refine lv_iinc (v := x8_2) (lv' := [(8, .int x8_2), (0, .ref (a 7 99))]) hx hb dX7_goes_108 hl (k := 1) rfl (by rw [ex8_2]; rfl) (by decide) rfl (fun ls hl => ?_)
    refine lv_goto (tgt := 85) hx hb dX7_goes_111 (by decide) ?_
    exact hJ85 _ _ _ _ _ hv Y (lv_sub hl [1, 0] rfl)

def wp_X7_goes_118 (TX7_goes : (zSt → Prop) → Int32 → Int32 → Int32 → Int32 → Int32 → Int32 → Int32 → zSt → Prop) (J85 : Int32 → zSt → Prop) (J118 : Int32 → Int32 → Int32 → Int32 → Int32 → Int32 → Int32 → Int32 → zSt → Prop) (Q1 : zSt → Prop) (x1 : Int32) (x2 : Int32) (x3 : Int32) (x4 : Int32) (x5 : Int32) (x6 : Int32) (x7 : Int32) (x8 : Int32) (u7 : zSt) : Prop :=
  (x2 < x8 → Q1 u7) ∧ (¬ x2 < x8 → vp_in x1 6 ∧ (((u7.2 5 x1.toNatClampNeg) < x8 → Q1 u7) ∧ (¬ (u7.2 5 x1.toNatClampNeg) < x8 → vp_in x1 6 ∧ (∀ u7_1 : zSt, u7_1 = zA u7 7 (upd (u7.2 7) x1.toNatClampNeg x8) → vp_in x1 6 ∧ (vp_in x1 6 ∧ (vp_in x1 6 ∧ (TX7_goes (fun (u7_2 : zSt) => ∀ x8_4 : Int32, x8_4 = x8 + 1 → J118 x1 x2 x3 x4 x5 x6 x7 x8_4 u7_2) (x1 + 1) (x2 - x8) (x3 + (x8 * (u7_1.2 2 x1.toNatClampNeg))) (x4 + (x8 * (u7_1.2 3 x1.toNatClampNeg))) (x5 + (x8 * (u7_1.2 4 x1.toNatClampNeg))) x6 x7 u7_1)))))))

set_option maxHeartbeats 4000000 in
set_option maxRecDepth 100000 in
theorem bk_X7_goes_118 {d : Nat} {a : Nat → Nat → Nat} {TX7_goes : (zSt → Prop) → Int32 → Int32 → Int32 → Int32 → Int32 → Int32 → Int32 → zSt → Prop} {J85 : Int32 → zSt → Prop} {J118 : Int32 → Int32 → Int32 → Int32 → Int32 → Int32 → Int32 → Int32 → zSt → Prop} {Q1 : zSt → Prop} {x1 : Int32} {x2 : Int32} {x3 : Int32} {x4 : Int32} {x5 : Int32} {x6 : Int32} {x7 : Int32} {x8 : Int32} {u7 : zSt} (C : zCx p s m args c cX7_goes 9 RX7 wsX7_goes D cI cZ cJ A) (Y : zDy D A s.heap (k7 a cI cZ u7) H locs) (hl : lv_has ls 9 [(0, .ref (a 7 99)), (1, .int x1), (2, .int x2), (3, .int x3), (4, .int x4), (5, .int x5), (6, .int x6), (7, .int x7), (8, .int x8)]) (hr_X7_goes : (∀ (Q1 : zSt → Prop) (p1 : Int32) (p2 : Int32) (p3 : Int32) (p4 : Int32) (p5 : Int32) (p6 : Int32) (p7 : Int32) (u7 : zSt), TX7_goes Q1 p1 p2 p3 p4 p5 p6 p7 u7 → zMV l yX7_goes wsX7_goes (rmG d) D cI cZ cJ [.ref (a 7 99), .int p1, .int p2, .int p3, .int p4, .int p5, .int p6, .int p7] (k7 a cI cZ u7) (fun u : zSt => k7 a cI cZ u) Q1)) (hret : ∀ {pc : Nat} {H : Heap} {locs : List Loc} {ls : Array Slot} {u : zSt}, zDy D A s.heap ((fun u : zSt => k7 a cI cZ u) u) H locs → Q1 u → decode cX7_goes pc = .ok (.return_, 1) → W p l e (rmG (d + 1)) s m args below meth c H locs 0 0 Q (F0 m pc ls [])) (hJ85 : ∀ (x8 : Int32) (u7 : zSt) (H : Heap) (locs : List Loc) (ls : Array Slot), J85 x8 u7 → zDy D A s.heap (k7 a cI cZ u7) H locs → lv_has ls 9 [(0, .ref (a 7 99)), (8, .int x8)] → W p l e (rmG (d + 1)) s m args below meth c H locs 0 0 Q (F0 m 85 ls [])) (hJ118 : ∀ (x1 : Int32) (x2 : Int32) (x3 : Int32) (x4 : Int32) (x5 : Int32) (x6 : Int32) (x7 : Int32) (x8 : Int32) (u7 : zSt) (H : Heap) (locs : List Loc) (ls : Array Slot), J118 x1 x2 x3 x4 x5 x6 x7 x8 u7 → zDy D A s.heap (k7 a cI cZ u7) H locs → lv_has ls 9 [(0, .ref (a 7 99)), (1, .int x1), (2, .int x2), (3, .int x3), (4, .int x4), (5, .int x5), (6, .int x6), (7, .int x7), (8, .int x8)] → W p l e (rmG (d + 1)) s m args below meth c H locs 0 0 Q (F0 m 118 ls [])) (hv : wp_X7_goes_118 TX7_goes J85 J118 Q1 x1 x2 x3 x4 x5 x6 x7 x8 u7) : W p l e (rmG (d + 1)) s m args below meth c H locs 0 0 Q (F0 m 118 ls []) := by
  unfold wp_X7_goes_118 at hv
  obtain ⟨hx, hb, hml, hown, hts, hK, hA⟩ := id C
  refine lv_iload hx hb dX7_goes_118 (lv_at hl 8 rfl) ?_
  refine lv_iload_n hx hb dX7_goes_120 rfl (lv_at hl 2 rfl) ?_
  refine lv_icmp_gt (tgt := 199) hx hb dX7_goes_121 (by decide) (fun hc => ?_) (fun hc => ?_)
  · have hv := hv.1 hc
    exact hret Y hv dX7_goes_199
  · have hv := hv.2 hc
    refine lv_iload hx hb dX7_goes_124 (lv_at hl 8 rfl) ?_
    refine lv_aload_n hx hb dX7_goes_126 rfl (lv_at hl 0 rfl) ?_
    refine z_get C Y (Cn := RX7) (T := TX7) (N := 42) in_X7_goes_7 rfl (ge7_7 ..) 5 (by decide) fl_X7_goes_19 rfl dX7_goes_127 ?_
    refine lv_iload_n hx hb dX7_goes_130 rfl (lv_at hl 1 rfl) ?_
    obtain ⟨hi, hv⟩ := hv
    refine z_ldI C Y (pa7_7_5 ..) hi dX7_goes_131 ?_
    refine lv_icmp_gt (tgt := 199) hx hb dX7_goes_132 (by decide) (fun hc => ?_) (fun hc => ?_)
    · have hv := hv.1 hc
      exact hret Y hv dX7_goes_199
    · have hv := hv.2 hc
      refine lv_aload_n hx hb dX7_goes_135 rfl (lv_at hl 0 rfl) ?_
      refine z_get C Y (Cn := RX7) (T := TX7) (N := 42) in_X7_goes_7 rfl (ge7_7 ..) 7 (by decide) fl_X7_goes_22 rfl dX7_goes_136 ?_
      refine lv_iload_n hx hb dX7_goes_139 rfl (lv_at hl 1 rfl) ?_
      refine lv_iload hx hb dX7_goes_140 (lv_at hl 8 rfl) ?_
      obtain ⟨hi, hv⟩ := hv
      refine z_stI C Y (pa7_7_7 ..) (sa7_7_7 ..) hi dX7_goes_142 (fun H locs Y => ?_)
      obtain ⟨u7_1, eu7_1, Y, hv⟩ := z_nm (kf := fun z => (k7 a cI cZ z)) Y hv
      refine lv_aload_n hx hb dX7_goes_143 rfl (lv_at hl 0 rfl) ?_
      refine lv_iload_n hx hb dX7_goes_144 rfl (lv_at hl 1 rfl) ?_
      refine lv_iconst (v := 1) hx hb dX7_goes_145 (by decide) ?_
      refine lv_iadd hx hb dX7_goes_146 ?_
      refine lv_iload_n hx hb dX7_goes_147 rfl (lv_at hl 2 rfl) ?_
      refine lv_iload hx hb dX7_goes_148 (lv_at hl 8 rfl) ?_
      refine lv_isub hx hb dX7_goes_150 ?_
      refine lv_iload_n hx hb dX7_goes_151 rfl (lv_at hl 3 rfl) ?_
      refine lv_iload hx hb dX7_goes_152 (lv_at hl 8 rfl) ?_
      refine lv_aload_n hx hb dX7_goes_154 rfl (lv_at hl 0 rfl) ?_
      refine z_get C Y (Cn := RX7) (T := TX7) (N := 42) in_X7_goes_7 rfl (ge7_7 ..) 2 (by decide) fl_X7_goes_9 rfl dX7_goes_155 ?_
      refine lv_iload_n hx hb dX7_goes_158 rfl (lv_at hl 1 rfl) ?_
      obtain ⟨hi, hv⟩ := hv
      refine z_ldI C Y (pa7_7_2 ..) hi dX7_goes_159 ?_
      refine lv_imul hx hb dX7_goes_160 ?_
      refine lv_iadd hx hb dX7_goes_161 ?_
      refine lv_iload hx hb dX7_goes_162 (lv_at hl 4 rfl) ?_
      refine lv_iload hx hb dX7_goes_164 (lv_at hl 8 rfl) ?_
      refine lv_aload_n hx hb dX7_goes_166 rfl (lv_at hl 0 rfl) ?_
      refine z_get C Y (Cn := RX7) (T := TX7) (N := 42) in_X7_goes_7 rfl (ge7_7 ..) 3 (by decide) fl_X7_goes_13 rfl dX7_goes_167 ?_
      refine lv_iload_n hx hb dX7_goes_170 rfl (lv_at hl 1 rfl) ?_
      obtain ⟨hi, hv⟩ := hv
      refine z_ldI C Y (pa7_7_3 ..) hi dX7_goes_171 ?_
      refine lv_imul hx hb dX7_goes_172 ?_
      refine lv_iadd hx hb dX7_goes_173 ?_
      refine lv_iload hx hb dX7_goes_174 (lv_at hl 5 rfl) ?_
      refine lv_iload hx hb dX7_goes_176 (lv_at hl 8 rfl) ?_
      refine lv_aload_n hx hb dX7_goes_178 rfl (lv_at hl 0 rfl) ?_
      refine z_get C Y (Cn := RX7) (T := TX7) (N := 42) in_X7_goes_7 rfl (ge7_7 ..) 4 (by decide) fl_X7_goes_16 rfl dX7_goes_179 ?_
      refine lv_iload_n hx hb dX7_goes_182 rfl (lv_at hl 1 rfl) ?_
      obtain ⟨hi, hv⟩ := hv
      refine z_ldI C Y (pa7_7_4 ..) hi dX7_goes_183 ?_
      refine lv_imul hx hb dX7_goes_184 ?_
      refine lv_iadd hx hb dX7_goes_185 ?_
      refine lv_iload hx hb dX7_goes_186 (lv_at hl 6 rfl) ?_
      refine lv_iload hx hb dX7_goes_188 (lv_at hl 7 rfl) ?_
      refine z_callVv C Y (hr_X7_goes _ _ _ _ _ _ _ _ _ hv) (zFr.self _ _) (cwV 7 hts gX7_goes_X7_goes rfl rfl rfl (by decide +kernel) ⟨(by first | exact Nat.le_of_ble_eq_true rfl | (simp only [rmC, rmP, rmG, List.map, List.sum_cons, List.sum_nil, Value.category]; omega)), (by first | exact Nat.le_of_ble_eq_true rfl | (simp only [rmC, rmP, rmG, List.map, List.sum_cons, List.sum_nil, Value.category]; omega))⟩) (ge7_7 ..) rfl rfl rfl hl.1 rfl (Nat.le_of_ble_eq_true rfl) dX7_goes_190 ⟨Nat.zero_le _, Nat.zero_le _⟩ (fun u7_2 H locs Y hv => ?_)
      obtain ⟨x8_4, ex8_4, hv⟩ := z_nv hv
      refine lv_iinc (v := x8_4) (lv' := [(8, .int x8_4), (0, .ref (a 7 99)), (1, .int x1), (2, .int x2), (3, .int x3), (4, .int x4), (5, .int x5), (6, .int x6), (7, .int x7)]) hx hb dX7_goes_193 hl (k := 8) rfl (by rw [ex8_4]; rfl) (by decide) rfl (fun ls hl => ?_)
      refine lv_goto (tgt := 118) hx hb dX7_goes_196 (by decide) ?_
      exact hJ118 _ _ _ _ _ _ _ _ _ _ _ _ hv Y (lv_sub hl [1, 2, 3, 4, 5, 6, 7, 8, 0] rfl)

end
set_option maxHeartbeats 4000000 in
set_option maxRecDepth 100000 in
theorem k_X7_goes (l : Launch) {d : Nat} {D : va_G} {cI cZ cJ : ClassId} {a : Nat → Nat → Nat} {TX7_goes : (zSt → Prop) → Int32 → Int32 → Int32 → Int32 → Int32 → Int32 → Int32 → zSt → Prop} {Q1 : zSt → Prop} {p1 : Int32} {p2 : Int32} {p3 : Int32} {p4 : Int32} {p5 : Int32} {p6 : Int32} {p7 : Int32} {u7 : zSt} (hr_X7_goes : (∀ (Q1 : zSt → Prop) (p1 : Int32) (p2 : Int32) (p3 : Int32) (p4 : Int32) (p5 : Int32) (p6 : Int32) (p7 : Int32) (u7 : zSt), TX7_goes Q1 p1 p2 p3 p4 p5 p6 p7 u7 → zMV l yX7_goes wsX7_goes (rmG d) D cI cZ cJ [.ref (a 7 99), .int p1, .int p2, .int p3, .int p4, .int p5, .int p6, .int p7] (k7 a cI cZ u7) (fun u : zSt => k7 a cI cZ u) Q1)) (I85 : Nat → Int32 → zSt → Prop) (I118 : Nat → Int32 → Int32 → Int32 → Int32 → Int32 → Int32 → Int32 → Int32 → zSt → Prop)
    (hv : wp_X7_goes_0 TX7_goes (fun x8 u7 => ∃ n : Nat, I85 n x8 u7) (fun x1 x2 x3 x4 x5 x6 x7 x8 u7 => ∃ n : Nat, I118 n x1 x2 x3 x4 x5 x6 x7 x8 u7) Q1 p1 p2 p3 p4 p5 p6 p7 u7)
    (hI85 : ∀ (n : Nat) (x8 : Int32) (u7 : zSt), I85 n x8 u7 → wp_X7_goes_85 TX7_goes (fun x8 u7 => ∃ k : Nat, k < n ∧ I85 k x8 u7) (fun x1 x2 x3 x4 x5 x6 x7 x8 u7 => ∃ k : Nat, k < n ∧ I118 k x1 x2 x3 x4 x5 x6 x7 x8 u7) Q1 x8 u7)
    (hI118 : ∀ (n : Nat) (x1 : Int32) (x2 : Int32) (x3 : Int32) (x4 : Int32) (x5 : Int32) (x6 : Int32) (x7 : Int32) (x8 : Int32) (u7 : zSt), I118 n x1 x2 x3 x4 x5 x6 x7 x8 u7 → wp_X7_goes_118 TX7_goes (fun x8 u7 => ∃ k : Nat, k < n ∧ I85 k x8 u7) (fun x1 x2 x3 x4 x5 x6 x7 x8 u7 => ∃ k : Nat, k < n ∧ I118 k x1 x2 x3 x4 x5 x6 x7 x8 u7) Q1 x1 x2 x3 x4 x5 x6 x7 x8 u7) : zMV l yX7_goes wsX7_goes (rmG (d + 1)) D cI cZ cJ [.ref (a 7 99), .int p1, .int p2, .int p3, .int p4, .int p5, .int p6, .int p7] (k7 a cI cZ u7) (fun u : zSt => k7 a cI cZ u) Q1 := by
  refine z_ofV (by decide) rfl rfl (Nat.le_of_ble_eq_true rfl) (@fun p e s m args below meth c A Q ls C Y hl hret => ?_)
  have key : ∀ n : Nat, (∀ (x8 : Int32) (u7 : zSt) (H : Heap) (locs : List Loc) (ls : Array Slot), I85 n x8 u7 → zDy D A s.heap (k7 a cI cZ u7) H locs → lv_has ls 9 [(0, .ref (a 7 99)), (8, .int x8)] → W p l e (rmG (d + 1)) s m args below meth c H locs 0 0 Q (F0 m 85 ls [])) ∧ (∀ (x1 : Int32) (x2 : Int32) (x3 : Int32) (x4 : Int32) (x5 : Int32) (x6 : Int32) (x7 : Int32) (x8 : Int32) (u7 : zSt) (H : Heap) (locs : List Loc) (ls : Array Slot), I118 n x1 x2 x3 x4 x5 x6 x7 x8 u7 → zDy D A s.heap (k7 a cI cZ u7) H locs → lv_has ls 9 [(0, .ref (a 7 99)), (1, .int x1), (2, .int x2), (3, .int x3), (4, .int x4), (5, .int x5), (6, .int x6), (7, .int x7), (8, .int x8)] → W p l e (rmG (d + 1)) s m args below meth c H locs 0 0 Q (F0 m 118 ls [])) := by
    intro n
    induction n using Nat.strongRecOn with
    | _ n ih =>
      exact ⟨fun x8 u7 H locs ls hi Y hl => bk_X7_goes_85 C Y hl hr_X7_goes hret (fun y0 y1 H locs ls hi Y hl => by obtain ⟨k, hk, hi⟩ := hi; exact (ih k hk).1 y0 y1 H locs ls hi Y hl) (fun y0 y1 y2 y3 y4 y5 y6 y7 y8 H locs ls hi Y hl => by obtain ⟨k, hk, hi⟩ := hi; exact (ih k hk).2 y0 y1 y2 y3 y4 y5 y6 y7 y8 H locs ls hi Y hl) (hI85 n x8 u7 hi), fun x1 x2 x3 x4 x5 x6 x7 x8 u7 H locs ls hi Y hl => bk_X7_goes_118 C Y hl hr_X7_goes hret (fun y0 y1 H locs ls hi Y hl => by obtain ⟨k, hk, hi⟩ := hi; exact (ih k hk).1 y0 y1 H locs ls hi Y hl) (fun y0 y1 y2 y3 y4 y5 y6 y7 y8 H locs ls hi Y hl => by obtain ⟨k, hk, hi⟩ := hi; exact (ih k hk).2 y0 y1 y2 y3 y4 y5 y6 y7 y8 H locs ls hi Y hl) (hI118 n x1 x2 x3 x4 x5 x6 x7 x8 u7 hi)⟩
  exact bk_X7_goes_0 C Y hl hr_X7_goes hret (fun y0 y1 H locs ls hi Y hl => by obtain ⟨n, hi⟩ := hi; exact (key n).1 y0 y1 H locs ls hi Y hl) (fun y0 y1 y2 y3 y4 y5 y6 y7 y8 H locs ls hi Y hl => by obtain ⟨n, hi⟩ := hi; exact (key n).2 y0 y1 y2 y3 y4 y5 y6 y7 y8 H locs ls hi Y hl) hv


def TRX7_goes : Nat → (zSt → Prop) → Int32 → Int32 → Int32 → Int32 → Int32 → Int32 → Int32 → zSt → Prop
  | 0 => fun _ _ _ _ _ _ _ _ _ => False
  | d + 1 => fun Q1 p1 p2 p3 p4 p5 p6 p7 u7 => ∃ I85 : Nat → Int32 → zSt → Prop, ∃ I118 : Nat → Int32 → Int32 → Int32 → Int32 → Int32 → Int32 → Int32 → Int32 → zSt → Prop, (wp_X7_goes_0 (TRX7_goes d) (fun x8 u7 => ∃ n : Nat, I85 n x8 u7) (fun x1 x2 x3 x4 x5 x6 x7 x8 u7 => ∃ n : Nat, I118 n x1 x2 x3 x4 x5 x6 x7 x8 u7) Q1 p1 p2 p3 p4 p5 p6 p7 u7) ∧ (∀ (n : Nat) (x8 : Int32) (u7 : zSt), I85 n x8 u7 → wp_X7_goes_85 (TRX7_goes d) (fun x8 u7 => ∃ k : Nat, k < n ∧ I85 k x8 u7) (fun x1 x2 x3 x4 x5 x6 x7 x8 u7 => ∃ k : Nat, k < n ∧ I118 k x1 x2 x3 x4 x5 x6 x7 x8 u7) Q1 x8 u7) ∧ (∀ (n : Nat) (x1 : Int32) (x2 : Int32) (x3 : Int32) (x4 : Int32) (x5 : Int32) (x6 : Int32) (x7 : Int32) (x8 : Int32) (u7 : zSt), I118 n x1 x2 x3 x4 x5 x6 x7 x8 u7 → wp_X7_goes_118 (TRX7_goes d) (fun x8 u7 => ∃ k : Nat, k < n ∧ I85 k x8 u7) (fun x1 x2 x3 x4 x5 x6 x7 x8 u7 => ∃ k : Nat, k < n ∧ I118 k x1 x2 x3 x4 x5 x6 x7 x8 u7) Q1 x1 x2 x3 x4 x5 x6 x7 x8 u7)
theorem cr_X7_goes (l : Launch) {D : va_G} {cI cZ cJ : ClassId} {a : Nat → Nat → Nat} : ∀ (d : Nat) (Q1 : zSt → Prop) (p1 : Int32) (p2 : Int32) (p3 : Int32) (p4 : Int32) (p5 : Int32) (p6 : Int32) (p7 : Int32) (u7 : zSt), TRX7_goes d Q1 p1 p2 p3 p4 p5 p6 p7 u7 → zMV l yX7_goes wsX7_goes (rmG d) D cI cZ cJ [.ref (a 7 99), .int p1, .int p2, .int p3, .int p4, .int p5, .int p6, .int p7] (k7 a cI cZ u7) (fun u : zSt => k7 a cI cZ u) Q1 := by
  intro d
  induction d with
  | zero => intro Q1 p1 p2 p3 p4 p5 p6 p7 u7 hv; exact hv.elim
  | succ d ih =>
    intro Q1 p1 p2 p3 p4 p5 p6 p7 u7 hv
    obtain ⟨I85, I118, hv, hI85, hI118⟩ := hv
    exact k_X7_goes l ih I85 I118 hv hI85 hI118
abbrev TX7_goes := TRX7_goes 8
theorem c_X7_goes (l : Launch) {D : va_G} {cI cZ cJ : ClassId} {a : Nat → Nat → Nat} {Q1 : zSt → Prop} {p1 : Int32} {p2 : Int32} {p3 : Int32} {p4 : Int32} {p5 : Int32} {p6 : Int32} {p7 : Int32} {u7 : zSt} (hv : TX7_goes Q1 p1 p2 p3 p4 p5 p6 p7 u7) : zMV l yX7_goes wsX7_goes (rmG 8) D cI cZ cJ [.ref (a 7 99), .int p1, .int p2, .int p3, .int p4, .int p5, .int p6, .int p7] (k7 a cI cZ u7) (fun u : zSt => k7 a cI cZ u) Q1 := cr_X7_goes l 8 Q1 p1 p2 p3 p4 p5 p6 p7 u7 hv

theorem in_X7_blends_7 : ∀ w ∈ wsX70, w ∈ wsX7_blends := by first | exact fun w h => List.mem_cons_of_mem _ (List.mem_append_right _ h) | exact fun w h => List.mem_cons_of_mem _ (List.mem_append_left _ (List.mem_append_right _ h)) | decide +kernel
theorem fl_X7_blends_111 : Cond.fieldLink RX7 111 (TX7 9).1 (TX7 9).2.1 (TX7 9).2.2.1 ∈ wsX7_blends := by decide +kernel
section
variable {p : Program} {l : Launch} {e : Env} {s : State} {m : MethodId} {args : Array Value} {below : List Frame} {meth : Method} {c : Code} {H : Heap} {locs : List Loc} {Q : State → Prop} {D : va_G} {cI cZ cJ : ClassId} {A : Nat → Prop} {ls : Array Slot}
def wp_X7_blends_0 (Q1 : Int32 → zSt → Prop) (p1 : Int32) (p2 : Int32) (u7 : zSt) : Prop :=
  ∀ u7_1 : zSt, u7_1 = zI u7 9 (-1) → TX7_goes (fun (u7_2 : zSt) => Q1 (u7_2.1 9) u7_2) 0 10 0 0 0 p1 p2 u7_1

set_option maxHeartbeats 4000000 in
set_option maxRecDepth 100000 in
theorem bk_X7_blends_0 {a : Nat → Nat → Nat} {Q1 : Int32 → zSt → Prop} {p1 : Int32} {p2 : Int32} {u7 : zSt} (C : zCx p s m args c cX7_blends 3 RX7 wsX7_blends D cI cZ cJ A) (Y : zDy D A s.heap (k7 a cI cZ u7) H locs) (hl : lv_has ls 3 [(0, .ref (a 7 99)), (1, .int p1), (2, .int p2)]) (hret : ∀ {pc : Nat} {H : Heap} {locs : List Loc} {ls : Array Slot} {r : Int32} {u : zSt}, zDy D A s.heap ((fun u : zSt => k7 a cI cZ u) u) H locs → Q1 r u → decode cX7_blends pc = .ok (.ireturn, 1) → W p l e ({ frames := 9, cells := 0, slots := 0, locals := 268 } : Room) s m args below meth c H locs 0 0 Q (F0 m pc ls [.int r])) (hv : wp_X7_blends_0 Q1 p1 p2 u7) : W p l e ({ frames := 9, cells := 0, slots := 0, locals := 268 } : Room) s m args below meth c H locs 0 0 Q (F0 m 0 ls []) := by
  unfold wp_X7_blends_0 at hv
  obtain ⟨hx, hb, hml, hown, hts, hK, hA⟩ := id C
  refine lv_aload_n hx hb dX7_blends_0 rfl (lv_at hl 0 rfl) ?_
  refine lv_iconst (v := (-1)) hx hb dX7_blends_1 (by decide) ?_
  refine z_putI C Y (Cn := RX7) (T := TX7) (N := 42) in_X7_blends_7 rfl tyX7 tyX7_ok nmX7 (ge7_7 ..) 9 (by decide) fl_X7_blends_111 rfl (by decide +kernel) (Nat.le_of_ble_eq_true rfl) (si7_7_9 ..) dX7_blends_2 (fun H locs Y => ?_)
  obtain ⟨u7_1, eu7_1, Y, hv⟩ := z_nm (kf := fun z => (k7 a cI cZ z)) Y hv
  refine lv_aload_n hx hb dX7_blends_5 rfl (lv_at hl 0 rfl) ?_
  refine lv_iconst (v := 0) hx hb dX7_blends_6 (by decide) ?_
  refine lv_bipush (v := 10) hx hb dX7_blends_7 (by decide) ?_
  refine lv_iconst (v := 0) hx hb dX7_blends_9 (by decide) ?_
  refine lv_iconst (v := 0) hx hb dX7_blends_10 (by decide) ?_
  refine lv_iconst (v := 0) hx hb dX7_blends_11 (by decide) ?_
  refine lv_iload_n hx hb dX7_blends_12 rfl (lv_at hl 1 rfl) ?_
  refine lv_iload_n hx hb dX7_blends_13 rfl (lv_at hl 2 rfl) ?_
  refine z_callVv C Y (c_X7_goes l hv) (zFr.self _ _) (cwV 7 hts gX7_blends_X7_goes rfl rfl rfl (by decide +kernel) ⟨(Nat.le_of_ble_eq_true rfl), (Nat.le_of_ble_eq_true rfl)⟩) (ge7_7 ..) rfl rfl rfl hl.1 rfl (Nat.le_of_ble_eq_true rfl) dX7_blends_14 ⟨Nat.zero_le _, Nat.zero_le _⟩ (fun u7_2 H locs Y hv => ?_)
  refine lv_aload_n hx hb dX7_blends_17 rfl (lv_at hl 0 rfl) ?_
  refine z_get C Y (Cn := RX7) (T := TX7) (N := 42) in_X7_blends_7 rfl (ge7_7 ..) 9 (by decide) fl_X7_blends_111 rfl dX7_blends_18 ?_
  exact hret Y hv dX7_blends_21

end
abbrev TX7_blends := wp_X7_blends_0
set_option maxHeartbeats 4000000 in
set_option maxRecDepth 100000 in
theorem c_X7_blends (l : Launch) {D : va_G} {cI cZ cJ : ClassId} {a : Nat → Nat → Nat} {Q1 : Int32 → zSt → Prop} {p1 : Int32} {p2 : Int32} {u7 : zSt} (hv : wp_X7_blends_0 Q1 p1 p2 u7) : zMI l yX7_blends wsX7_blends ({ frames := 9, cells := 0, slots := 0, locals := 268 } : Room) D cI cZ cJ [.ref (a 7 99), .int p1, .int p2] (k7 a cI cZ u7) (fun u : zSt => k7 a cI cZ u) Q1 :=
  z_ofI (by decide) rfl rfl (Nat.le_of_ble_eq_true rfl) (fun C Y hl hret => bk_X7_blends_0 C Y hl hret hv)


section
variable {p : Program} {l : Launch} {e : Env} {s : State} {m : MethodId} {args : Array Value} {below : List Frame} {meth : Method} {c : Code} {H : Heap} {locs : List Loc} {Q : State → Prop} {D : va_G} {cI cZ cJ : ClassId} {A : Nat → Prop} {ls : Array Slot}
def wp_X7_noGrade_0 (Q1 : Int32 → Unit → Prop) (p0 : Int32) (p1 : Int32) : Prop :=
  (p0 < (0 : Int32) → Q1 1 ()) ∧ (¬ p0 < (0 : Int32) → (p1 < p0 → Q1 1 ()) ∧ (¬ p1 < p0 → (p1 ≤ (1000 : Int32) → Q1 0 ()) ∧ (¬ p1 ≤ (1000 : Int32) → Q1 1 ())))

set_option maxHeartbeats 4000000 in
set_option maxRecDepth 100000 in
theorem bk_X7_noGrade_0 {Q1 : Int32 → Unit → Prop} {p0 : Int32} {p1 : Int32} (C : zCx p s m args c cX7_noGrade 2 RX7 wsX7_noGrade D cI cZ cJ A) (Y : zDy D A s.heap ([] : va_W) H locs) (hl : lv_has ls 2 [(0, .int p0), (1, .int p1)]) (hret : ∀ {pc : Nat} {H : Heap} {locs : List Loc} {ls : Array Slot} {r : Int32} {u : Unit}, zDy D A s.heap ((fun _ : Unit => ([] : va_W)) u) H locs → (r = 0 ∨ r = 1) → Q1 r u → decode cX7_noGrade pc = .ok (.ireturn, 1) → W p l e ({ frames := 0, cells := 0, slots := 0, locals := 0 } : Room) s m args below meth c H locs 0 0 Q (F0 m pc ls [.int r])) (hv : wp_X7_noGrade_0 Q1 p0 p1 ) : W p l e ({ frames := 0, cells := 0, slots := 0, locals := 0 } : Room) s m args below meth c H locs 0 0 Q (F0 m 0 ls []) := by
  unfold wp_X7_noGrade_0 at hv
  obtain ⟨hx, hb, hml, hown, hts, hK, hA⟩ := id C
  refine lv_iload_n hx hb dX7_noGrade_0 rfl (lv_at hl 0 rfl) ?_
  refine lv_if_lt (tgt := 16) hx hb dX7_noGrade_1 (by decide) (fun hc => ?_) (fun hc => ?_)
  · have hv := hv.1 hc
    refine lv_iconst (v := 1) hx hb dX7_noGrade_16 (by decide) ?_
    refine lv_goto (tgt := 21) hx hb dX7_noGrade_17 (by decide) ?_
    exact hret Y (Or.inr rfl) hv dX7_noGrade_21
  · have hv := hv.2 hc
    refine lv_iload_n hx hb dX7_noGrade_4 rfl (lv_at hl 1 rfl) ?_
    refine lv_iload_n hx hb dX7_noGrade_5 rfl (lv_at hl 0 rfl) ?_
    refine lv_icmp_lt (tgt := 16) hx hb dX7_noGrade_6 (by decide) (fun hc => ?_) (fun hc => ?_)
    · have hv := hv.1 hc
      refine lv_iconst (v := 1) hx hb dX7_noGrade_16 (by decide) ?_
      refine lv_goto (tgt := 21) hx hb dX7_noGrade_17 (by decide) ?_
      exact hret Y (Or.inr rfl) hv dX7_noGrade_21
    · have hv := hv.2 hc
      refine lv_iload_n hx hb dX7_noGrade_9 rfl (lv_at hl 1 rfl) ?_
      refine lv_sipush (v := 1000) hx hb dX7_noGrade_10 (by decide) ?_
      refine lv_icmp_le (tgt := 20) hx hb dX7_noGrade_13 (by decide) (fun hc => ?_) (fun hc => ?_)
      · have hv := hv.1 hc
        refine lv_iconst (v := 0) hx hb dX7_noGrade_20 (by decide) ?_
        exact hret Y (Or.inl rfl) hv dX7_noGrade_21
      · have hv := hv.2 hc
        refine lv_iconst (v := 1) hx hb dX7_noGrade_16 (by decide) ?_
        refine lv_goto (tgt := 21) hx hb dX7_noGrade_17 (by decide) ?_
        exact hret Y (Or.inr rfl) hv dX7_noGrade_21

end
abbrev TX7_noGrade := wp_X7_noGrade_0
set_option maxHeartbeats 4000000 in
set_option maxRecDepth 100000 in
theorem c_X7_noGrade (l : Launch) {D : va_G} {cI cZ cJ : ClassId} {Q1 : Int32 → Unit → Prop} {p0 : Int32} {p1 : Int32} (hv : wp_X7_noGrade_0 Q1 p0 p1 ) : zMI l yX7_noGrade wsX7_noGrade ({ frames := 0, cells := 0, slots := 0, locals := 0 } : Room) D cI cZ cJ [.int p0, .int p1] ([] : va_W) (fun _ : Unit => ([] : va_W)) Q1 :=
  z_ofZ (by decide) rfl rfl (Nat.le_of_ble_eq_true rfl) (fun C Y hl hret => bk_X7_noGrade_0 C Y hl hret hv)


theorem in_X7_blend_7 : ∀ w ∈ wsX70, w ∈ wsX7_blend := by first | exact fun w h => List.mem_cons_of_mem _ (List.mem_append_right _ h) | exact fun w h => List.mem_cons_of_mem _ (List.mem_append_left _ (List.mem_append_right _ h)) | decide +kernel
theorem fl_X7_blend_93 : Cond.fieldLink RX7 93 (TX7 0).1 (TX7 0).2.1 (TX7 0).2.2.1 ∈ wsX7_blend := by decide +kernel
section
variable {p : Program} {l : Launch} {e : Env} {s : State} {m : MethodId} {args : Array Value} {below : List Frame} {meth : Method} {c : Code} {H : Heap} {locs : List Loc} {Q : State → Prop} {D : va_G} {cI cZ cJ : ClassId} {A : Nat → Prop} {ls : Array Slot}
def wp_X7_blend_0 (Q1 : Int32 → zSt → Prop) (p1 : Int32) (p2 : Int32) (u7 : zSt) : Prop :=
  ∀ u7_1 : zSt, u7_1 = zI u7 0 0 → TX7_noGrade (fun (r_2 : Int32) (_ : Unit) => TX7_throwsIf (fun (r_4 : Int32) (u7_3 : zSt) => (r_4 = (0 : Int32) → TX7_blends (fun (r_6 : Int32) (u7_5 : zSt) => Q1 r_6 u7_5) p1 p2 u7_3) ∧ (¬ r_4 = (0 : Int32) → Q1 0 u7_3)) r_2 1 u7_1) p1 p2 

set_option maxHeartbeats 4000000 in
set_option maxRecDepth 100000 in
theorem bk_X7_blend_0 {a : Nat → Nat → Nat} {Q1 : Int32 → zSt → Prop} {p1 : Int32} {p2 : Int32} {u7 : zSt} (C : zCx p s m args c cX7_blend 3 RX7 wsX7_blend D cI cZ cJ A) (Y : zDy D A s.heap (k7 a cI cZ u7) H locs) (hl : lv_has ls 3 [(0, .ref (a 7 99)), (1, .int p1), (2, .int p2)]) (hret : ∀ {pc : Nat} {H : Heap} {locs : List Loc} {ls : Array Slot} {r : Int32} {u : zSt}, zDy D A s.heap ((fun u : zSt => k7 a cI cZ u) u) H locs → Q1 r u → decode cX7_blend pc = .ok (.ireturn, 1) → W p l e ({ frames := 10, cells := 0, slots := 0, locals := 290 } : Room) s m args below meth c H locs 0 0 Q (F0 m pc ls [.int r])) (hv : wp_X7_blend_0 Q1 p1 p2 u7) : W p l e ({ frames := 10, cells := 0, slots := 0, locals := 290 } : Room) s m args below meth c H locs 0 0 Q (F0 m 0 ls []) := by
  unfold wp_X7_blend_0 at hv
  obtain ⟨hx, hb, hml, hown, hts, hK, hA⟩ := id C
  refine lv_aload_n hx hb dX7_blend_0 rfl (lv_at hl 0 rfl) ?_
  refine lv_iconst (v := 0) hx hb dX7_blend_1 (by decide) ?_
  refine z_putI C Y (Cn := RX7) (T := TX7) (N := 42) in_X7_blend_7 rfl tyX7 tyX7_ok nmX7 (ge7_7 ..) 0 (by decide) fl_X7_blend_93 rfl (by decide +kernel) (Nat.le_of_ble_eq_true rfl) (si7_7_0 ..) dX7_blend_2 (fun H locs Y => ?_)
  obtain ⟨u7_1, eu7_1, Y, hv⟩ := z_nm (kf := fun z => (k7 a cI cZ z)) Y hv
  refine lv_aload_n hx hb dX7_blend_5 rfl (lv_at hl 0 rfl) ?_
  refine lv_iload_n hx hb dX7_blend_6 rfl (lv_at hl 1 rfl) ?_
  refine lv_iload_n hx hb dX7_blend_7 rfl (lv_at hl 2 rfl) ?_
  refine z_callSi C Y (c_X7_noGrade l hv) (zFr.nil _) (va_cwS 2 hts gX7_blend_X7_noGrade rfl rfl rfl (by decide +kernel) ⟨(Nat.le_of_ble_eq_true rfl), (Nat.le_of_ble_eq_true rfl)⟩) rfl hl.1 rfl (Nat.le_of_ble_eq_true rfl) dX7_blend_8 ⟨Nat.zero_le _, Nat.zero_le _⟩ (fun r_2 _ H locs Y hv => ?_)
  refine lv_iconst (v := 1) hx hb dX7_blend_11 (by decide) ?_
  refine z_callVi C Y (c_X7_throwsIf l hv) (zFr.self _ _) (cwV 2 hts gX7_blend_X7_throwsIf rfl rfl rfl (by decide +kernel) ⟨(Nat.le_of_ble_eq_true rfl), (Nat.le_of_ble_eq_true rfl)⟩) (ge7_7 ..) rfl rfl rfl hl.1 rfl (Nat.le_of_ble_eq_true rfl) dX7_blend_12 ⟨Nat.zero_le _, Nat.zero_le _⟩ (fun r_4 u7_3 H locs Y hv => ?_)
  refine lv_if_eq (tgt := 22) hx hb dX7_blend_15 (by decide) (fun hc => ?_) (fun hc => ?_)
  · have hv := hv.1 hc
    refine lv_aload_n hx hb dX7_blend_22 rfl (lv_at hl 0 rfl) ?_
    refine lv_iload_n hx hb dX7_blend_23 rfl (lv_at hl 1 rfl) ?_
    refine lv_iload_n hx hb dX7_blend_24 rfl (lv_at hl 2 rfl) ?_
    refine z_callVi C Y (c_X7_blends l hv) (zFr.self _ _) (cwV 2 hts gX7_blend_X7_blends rfl rfl rfl (by decide +kernel) ⟨(Nat.le_of_ble_eq_true rfl), (Nat.le_of_ble_eq_true rfl)⟩) (ge7_7 ..) rfl rfl rfl hl.1 rfl (Nat.le_of_ble_eq_true rfl) dX7_blend_25 ⟨Nat.zero_le _, Nat.zero_le _⟩ (fun r_6 u7_5 H locs Y hv => ?_)
    exact hret Y hv dX7_blend_28
  · have hv := hv.2 hc
    refine lv_iconst (v := 0) hx hb dX7_blend_18 (by decide) ?_
    refine lv_goto (tgt := 28) hx hb dX7_blend_19 (by decide) ?_
    exact hret Y hv dX7_blend_28

end
abbrev TX7_blend := wp_X7_blend_0
set_option maxHeartbeats 4000000 in
set_option maxRecDepth 100000 in
theorem c_X7_blend (l : Launch) {D : va_G} {cI cZ cJ : ClassId} {a : Nat → Nat → Nat} {Q1 : Int32 → zSt → Prop} {p1 : Int32} {p2 : Int32} {u7 : zSt} (hv : wp_X7_blend_0 Q1 p1 p2 u7) : zMI l yX7_blend wsX7_blend ({ frames := 10, cells := 0, slots := 0, locals := 290 } : Room) D cI cZ cJ [.ref (a 7 99), .int p1, .int p2] (k7 a cI cZ u7) (fun u : zSt => k7 a cI cZ u) Q1 :=
  z_ofI (by decide) rfl rfl (Nat.le_of_ble_eq_true rfl) (fun C Y hl hret => bk_X7_blend_0 C Y hl hret hv)


theorem in_X7_parts_7 : ∀ w ∈ wsX70, w ∈ wsX7_parts := by first | exact fun w h => List.mem_cons_of_mem _ (List.mem_append_right _ h) | exact fun w h => List.mem_cons_of_mem _ (List.mem_append_left _ (List.mem_append_right _ h)) | decide +kernel
theorem fl_X7_parts_25 : Cond.fieldLink RX7 25 (TX7 8).1 (TX7 8).2.1 (TX7 8).2.2.1 ∈ wsX7_parts := by decide +kernel
theorem fl_X7_parts_93 : Cond.fieldLink RX7 93 (TX7 0).1 (TX7 0).2.1 (TX7 0).2.2.1 ∈ wsX7_parts := by decide +kernel
section
variable {p : Program} {l : Launch} {e : Env} {s : State} {m : MethodId} {args : Array Value} {below : List Frame} {meth : Method} {c : Code} {H : Heap} {locs : List Loc} {Q : State → Prop} {D : va_G} {cI cZ cJ : ClassId} {A : Nat → Prop} {ls : Array Slot}
def wp_X7_parts_0 (Q1 : Int32 → zSt → Prop) (p1 : Int32) (p2 : Int32) (p3 : Int32) (u7 : zSt) : Prop :=
  ∀ u7_1 : zSt, u7_1 = zI u7 0 0 → TX7_noEarth (fun (r_3 : Int32) (u7_2 : zSt) => TX7_throwsIf (fun (r_5 : Int32) (u7_4 : zSt) => (r_5 = (0 : Int32) → TX7_noGrade (fun (r_6 : Int32) (_ : Unit) => TX7_throwsIf (fun (r_8 : Int32) (u7_7 : zSt) => (r_8 = (0 : Int32) → TX7_blends (fun (r_10 : Int32) (u7_9 : zSt) => (r_10 = (-1 : Int32) → Q1 (-1) u7_9) ∧ (¬ r_10 = (-1 : Int32) → vp_in p3 6 ∧ (Q1 (u7_9.2 8 p3.toNatClampNeg) u7_9))) p1 p2 u7_7) ∧ (¬ r_8 = (0 : Int32) → Q1 0 u7_7)) r_6 2 u7_4) p1 p2 ) ∧ (¬ r_5 = (0 : Int32) → Q1 0 u7_4)) r_3 1 u7_2) p3 u7_1

set_option maxHeartbeats 4000000 in
set_option maxRecDepth 100000 in
theorem bk_X7_parts_0 {a : Nat → Nat → Nat} {Q1 : Int32 → zSt → Prop} {p1 : Int32} {p2 : Int32} {p3 : Int32} {u7 : zSt} (C : zCx p s m args c cX7_parts 4 RX7 wsX7_parts D cI cZ cJ A) (Y : zDy D A s.heap (k7 a cI cZ u7) H locs) (hl : lv_has ls 4 [(0, .ref (a 7 99)), (1, .int p1), (2, .int p2), (3, .int p3)]) (hret : ∀ {pc : Nat} {H : Heap} {locs : List Loc} {ls : Array Slot} {r : Int32} {u : zSt}, zDy D A s.heap ((fun u : zSt => k7 a cI cZ u) u) H locs → Q1 r u → decode cX7_parts pc = .ok (.ireturn, 1) → W p l e ({ frames := 10, cells := 0, slots := 0, locals := 290 } : Room) s m args below meth c H locs 0 0 Q (F0 m pc ls [.int r])) (hv : wp_X7_parts_0 Q1 p1 p2 p3 u7) : W p l e ({ frames := 10, cells := 0, slots := 0, locals := 290 } : Room) s m args below meth c H locs 0 0 Q (F0 m 0 ls []) := by
  unfold wp_X7_parts_0 at hv
  obtain ⟨hx, hb, hml, hown, hts, hK, hA⟩ := id C
  refine lv_aload_n hx hb dX7_parts_0 rfl (lv_at hl 0 rfl) ?_
  refine lv_iconst (v := 0) hx hb dX7_parts_1 (by decide) ?_
  refine z_putI C Y (Cn := RX7) (T := TX7) (N := 42) in_X7_parts_7 rfl tyX7 tyX7_ok nmX7 (ge7_7 ..) 0 (by decide) fl_X7_parts_93 rfl (by decide +kernel) (Nat.le_of_ble_eq_true rfl) (si7_7_0 ..) dX7_parts_2 (fun H locs Y => ?_)
  obtain ⟨u7_1, eu7_1, Y, hv⟩ := z_nm (kf := fun z => (k7 a cI cZ z)) Y hv
  refine lv_aload_n hx hb dX7_parts_5 rfl (lv_at hl 0 rfl) ?_
  refine lv_aload_n hx hb dX7_parts_6 rfl (lv_at hl 0 rfl) ?_
  refine lv_iload_n hx hb dX7_parts_7 rfl (lv_at hl 3 rfl) ?_
  refine z_callVi C Y (c_X7_noEarth l hv) (zFr.self _ _) (cwV 1 hts gX7_parts_X7_noEarth rfl rfl rfl (by decide +kernel) ⟨(Nat.le_of_ble_eq_true rfl), (Nat.le_of_ble_eq_true rfl)⟩) (ge7_7 ..) rfl rfl rfl hl.1 rfl (Nat.le_of_ble_eq_true rfl) dX7_parts_8 ⟨Nat.zero_le _, Nat.zero_le _⟩ (fun r_3 u7_2 H locs Y hv => ?_)
  refine lv_iconst (v := 1) hx hb dX7_parts_11 (by decide) ?_
  refine z_callVi C Y (c_X7_throwsIf l hv) (zFr.self _ _) (cwV 2 hts gX7_parts_X7_throwsIf rfl rfl rfl (by decide +kernel) ⟨(Nat.le_of_ble_eq_true rfl), (Nat.le_of_ble_eq_true rfl)⟩) (ge7_7 ..) rfl rfl rfl hl.1 rfl (Nat.le_of_ble_eq_true rfl) dX7_parts_12 ⟨Nat.zero_le _, Nat.zero_le _⟩ (fun r_5 u7_4 H locs Y hv => ?_)
  refine lv_if_ne (tgt := 31) hx hb dX7_parts_15 (by decide) (fun hc => ?_) (fun hc => ?_)
  · have hv := hv.2 hc
    refine lv_iconst (v := 0) hx hb dX7_parts_31 (by decide) ?_
    exact hret Y hv dX7_parts_32
  · have hv := hv.1 hc
    refine lv_aload_n hx hb dX7_parts_18 rfl (lv_at hl 0 rfl) ?_
    refine lv_iload_n hx hb dX7_parts_19 rfl (lv_at hl 1 rfl) ?_
    refine lv_iload_n hx hb dX7_parts_20 rfl (lv_at hl 2 rfl) ?_
    refine z_callSi C Y (c_X7_noGrade l hv) (zFr.nil _) (va_cwS 2 hts gX7_parts_X7_noGrade rfl rfl rfl (by decide +kernel) ⟨(Nat.le_of_ble_eq_true rfl), (Nat.le_of_ble_eq_true rfl)⟩) rfl hl.1 rfl (Nat.le_of_ble_eq_true rfl) dX7_parts_21 ⟨Nat.zero_le _, Nat.zero_le _⟩ (fun r_6 _ H locs Y hv => ?_)
    refine lv_iconst (v := 2) hx hb dX7_parts_24 (by decide) ?_
    refine z_callVi C Y (c_X7_throwsIf l hv) (zFr.self _ _) (cwV 2 hts gX7_parts_X7_throwsIf rfl rfl rfl (by decide +kernel) ⟨(Nat.le_of_ble_eq_true rfl), (Nat.le_of_ble_eq_true rfl)⟩) (ge7_7 ..) rfl rfl rfl hl.1 rfl (Nat.le_of_ble_eq_true rfl) dX7_parts_25 ⟨Nat.zero_le _, Nat.zero_le _⟩ (fun r_8 u7_7 H locs Y hv => ?_)
    refine lv_if_eq (tgt := 33) hx hb dX7_parts_28 (by decide) (fun hc => ?_) (fun hc => ?_)
    · have hv := hv.1 hc
      refine lv_aload_n hx hb dX7_parts_33 rfl (lv_at hl 0 rfl) ?_
      refine lv_iload_n hx hb dX7_parts_34 rfl (lv_at hl 1 rfl) ?_
      refine lv_iload_n hx hb dX7_parts_35 rfl (lv_at hl 2 rfl) ?_
      refine z_callVi C Y (c_X7_blends l hv) (zFr.self _ _) (cwV 2 hts gX7_parts_X7_blends rfl rfl rfl (by decide +kernel) ⟨(Nat.le_of_ble_eq_true rfl), (Nat.le_of_ble_eq_true rfl)⟩) (ge7_7 ..) rfl rfl rfl hl.1 rfl (Nat.le_of_ble_eq_true rfl) dX7_parts_36 ⟨Nat.zero_le _, Nat.zero_le _⟩ (fun r_10 u7_9 H locs Y hv => ?_)
      refine lv_iconst (v := (-1)) hx hb dX7_parts_39 (by decide) ?_
      refine lv_icmp_ne (tgt := 47) hx hb dX7_parts_40 (by decide) (fun hc => ?_) (fun hc => ?_)
      · have hv := hv.2 hc
        refine lv_aload_n hx hb dX7_parts_47 rfl (lv_at hl 0 rfl) ?_
        refine z_get C Y (Cn := RX7) (T := TX7) (N := 42) in_X7_parts_7 rfl (ge7_7 ..) 8 (by decide) fl_X7_parts_25 rfl dX7_parts_48 ?_
        refine lv_iload_n hx hb dX7_parts_51 rfl (lv_at hl 3 rfl) ?_
        obtain ⟨hi, hv⟩ := hv
        refine z_ldI C Y (pa7_7_8 ..) hi dX7_parts_52 ?_
        exact hret Y hv dX7_parts_53
      · have hv := hv.1 hc
        refine lv_iconst (v := (-1)) hx hb dX7_parts_43 (by decide) ?_
        refine lv_goto (tgt := 53) hx hb dX7_parts_44 (by decide) ?_
        exact hret Y hv dX7_parts_53
    · have hv := hv.2 hc
      refine lv_iconst (v := 0) hx hb dX7_parts_31 (by decide) ?_
      exact hret Y hv dX7_parts_32

end
abbrev TX7_parts := wp_X7_parts_0
set_option maxHeartbeats 4000000 in
set_option maxRecDepth 100000 in
theorem c_X7_parts (l : Launch) {D : va_G} {cI cZ cJ : ClassId} {a : Nat → Nat → Nat} {Q1 : Int32 → zSt → Prop} {p1 : Int32} {p2 : Int32} {p3 : Int32} {u7 : zSt} (hv : wp_X7_parts_0 Q1 p1 p2 p3 u7) : zMI l yX7_parts wsX7_parts ({ frames := 10, cells := 0, slots := 0, locals := 290 } : Room) D cI cZ cJ [.ref (a 7 99), .int p1, .int p2, .int p3] (k7 a cI cZ u7) (fun u : zSt => k7 a cI cZ u) Q1 :=
  z_ofI (by decide) rfl rfl (Nat.le_of_ble_eq_true rfl) (fun C Y hl hret => bk_X7_parts_0 C Y hl hret hv)


theorem in_X7_noLot_7 : ∀ w ∈ wsX70, w ∈ wsX7_noLot := by first | exact fun w h => List.mem_cons_of_mem _ (List.mem_append_right _ h) | exact fun w h => List.mem_cons_of_mem _ (List.mem_append_left _ (List.mem_append_right _ h)) | decide +kernel
theorem fl_X7_noLot_132 : Cond.fieldLink RX7 132 (TX7 17).1 (TX7 17).2.1 (TX7 17).2.2.1 ∈ wsX7_noLot := by decide +kernel
section
variable {p : Program} {l : Launch} {e : Env} {s : State} {m : MethodId} {args : Array Value} {below : List Frame} {meth : Method} {c : Code} {H : Heap} {locs : List Loc} {Q : State → Prop} {D : va_G} {cI cZ cJ : ClassId} {A : Nat → Prop} {ls : Array Slot}
def wp_X7_noLot_0 (Q1 : Int32 → zSt → Prop) (p1 : Int32) (u7 : zSt) : Prop :=
  TX7_in (fun (r_1 : Int32) (_ : Unit) => (r_1 = (0 : Int32) → Q1 1 u7) ∧ (¬ r_1 = (0 : Int32) → Q1 0 u7)) p1 0 ((u7.1 17) - 1) 

set_option maxHeartbeats 4000000 in
set_option maxRecDepth 100000 in
theorem bk_X7_noLot_0 {a : Nat → Nat → Nat} {Q1 : Int32 → zSt → Prop} {p1 : Int32} {u7 : zSt} (C : zCx p s m args c cX7_noLot 2 RX7 wsX7_noLot D cI cZ cJ A) (Y : zDy D A s.heap (k7 a cI cZ u7) H locs) (hl : lv_has ls 2 [(0, .ref (a 7 99)), (1, .int p1)]) (hret : ∀ {pc : Nat} {H : Heap} {locs : List Loc} {ls : Array Slot} {r : Int32} {u : zSt}, zDy D A s.heap ((fun u : zSt => k7 a cI cZ u) u) H locs → (r = 0 ∨ r = 1) → Q1 r u → decode cX7_noLot pc = .ok (.ireturn, 1) → W p l e ({ frames := 1, cells := 0, slots := 0, locals := 22 } : Room) s m args below meth c H locs 0 0 Q (F0 m pc ls [.int r])) (hv : wp_X7_noLot_0 Q1 p1 u7) : W p l e ({ frames := 1, cells := 0, slots := 0, locals := 22 } : Room) s m args below meth c H locs 0 0 Q (F0 m 0 ls []) := by
  unfold wp_X7_noLot_0 at hv
  obtain ⟨hx, hb, hml, hown, hts, hK, hA⟩ := id C
  refine lv_iload_n hx hb dX7_noLot_0 rfl (lv_at hl 1 rfl) ?_
  refine lv_iconst (v := 0) hx hb dX7_noLot_1 (by decide) ?_
  refine lv_aload_n hx hb dX7_noLot_2 rfl (lv_at hl 0 rfl) ?_
  refine z_get C Y (Cn := RX7) (T := TX7) (N := 42) in_X7_noLot_7 rfl (ge7_7 ..) 17 (by decide) fl_X7_noLot_132 rfl dX7_noLot_3 ?_
  refine lv_iconst (v := 1) hx hb dX7_noLot_6 (by decide) ?_
  refine lv_isub hx hb dX7_noLot_7 ?_
  refine z_callSi C Y (c_X7_in l hv) (zFr.nil _) (va_cwS 3 hts gX7_noLot_X7_in rfl rfl rfl (by decide +kernel) ⟨(Nat.le_of_ble_eq_true rfl), (Nat.le_of_ble_eq_true rfl)⟩) rfl hl.1 rfl (Nat.le_of_ble_eq_true rfl) dX7_noLot_8 ⟨Nat.zero_le _, Nat.zero_le _⟩ (fun r_1 _ H locs Y hv => ?_)
  refine lv_if_ne (tgt := 18) hx hb dX7_noLot_11 (by decide) (fun hc => ?_) (fun hc => ?_)
  · have hv := hv.2 hc
    refine lv_iconst (v := 0) hx hb dX7_noLot_18 (by decide) ?_
    exact hret Y (Or.inl rfl) hv dX7_noLot_19
  · have hv := hv.1 hc
    refine lv_iconst (v := 1) hx hb dX7_noLot_14 (by decide) ?_
    refine lv_goto (tgt := 19) hx hb dX7_noLot_15 (by decide) ?_
    exact hret Y (Or.inr rfl) hv dX7_noLot_19

end
abbrev TX7_noLot := wp_X7_noLot_0
set_option maxHeartbeats 4000000 in
set_option maxRecDepth 100000 in
theorem c_X7_noLot (l : Launch) {D : va_G} {cI cZ cJ : ClassId} {a : Nat → Nat → Nat} {Q1 : Int32 → zSt → Prop} {p1 : Int32} {u7 : zSt} (hv : wp_X7_noLot_0 Q1 p1 u7) : zMI l yX7_noLot wsX7_noLot ({ frames := 1, cells := 0, slots := 0, locals := 22 } : Room) D cI cZ cJ [.ref (a 7 99), .int p1] (k7 a cI cZ u7) (fun u : zSt => k7 a cI cZ u) Q1 :=
  z_ofZ (by decide) rfl rfl (Nat.le_of_ble_eq_true rfl) (fun C Y hl hret => bk_X7_noLot_0 C Y hl hret hv)


theorem in_X7_adds_7 : ∀ w ∈ wsX70, w ∈ wsX7_adds := by first | exact fun w h => List.mem_cons_of_mem _ (List.mem_append_right _ h) | exact fun w h => List.mem_cons_of_mem _ (List.mem_append_left _ (List.mem_append_right _ h)) | decide +kernel
theorem fl_X7_adds_28 : Cond.fieldLink RX7 28 (TX7 12).1 (TX7 12).2.1 (TX7 12).2.2.1 ∈ wsX7_adds := by decide +kernel
theorem fl_X7_adds_31 : Cond.fieldLink RX7 31 (TX7 13).1 (TX7 13).2.1 (TX7 13).2.2.1 ∈ wsX7_adds := by decide +kernel
theorem fl_X7_adds_37 : Cond.fieldLink RX7 37 (TX7 15).1 (TX7 15).2.1 (TX7 15).2.2.1 ∈ wsX7_adds := by decide +kernel
theorem fl_X7_adds_40 : Cond.fieldLink RX7 40 (TX7 16).1 (TX7 16).2.1 (TX7 16).2.2.1 ∈ wsX7_adds := by decide +kernel
theorem fl_X7_adds_132 : Cond.fieldLink RX7 132 (TX7 17).1 (TX7 17).2.1 (TX7 17).2.2.1 ∈ wsX7_adds := by decide +kernel
section
variable {p : Program} {l : Launch} {e : Env} {s : State} {m : MethodId} {args : Array Value} {below : List Frame} {meth : Method} {c : Code} {H : Heap} {locs : List Loc} {Q : State → Prop} {D : va_G} {cI cZ cJ : ClassId} {A : Nat → Prop} {ls : Array Slot}
def wp_X7_adds_0 (Q1 : Int32 → zSt → Prop) (p1 : Int32) (p2 : Int32) (p3 : Int32) (p4 : Int32) (u7 : zSt) : Prop :=
  vp_in (u7.1 17) 12 ∧ (∀ u7_1 : zSt, u7_1 = zA u7 12 (upd (u7.2 12) (u7.1 17).toNatClampNeg p1) → vp_in (u7_1.1 17) 12 ∧ (∀ u7_2 : zSt, u7_2 = zA u7_1 13 (upd (u7_1.2 13) (u7_1.1 17).toNatClampNeg p2) → vp_in (u7_2.1 17) 12 ∧ (∀ u7_3 : zSt, u7_3 = zA u7_2 15 (upd (u7_2.2 15) (u7_2.1 17).toNatClampNeg p3) → vp_in (u7_3.1 17) 12 ∧ (∀ u7_4 : zSt, u7_4 = zA u7_3 16 (upd (u7_3.2 16) (u7_3.1 17).toNatClampNeg p4) → ∀ u7_5 : zSt, u7_5 = zI u7_4 17 ((u7_4.1 17) + 1) → Q1 ((u7_5.1 17) - 1) u7_5))))

set_option maxHeartbeats 4000000 in
set_option maxRecDepth 100000 in
theorem bk_X7_adds_0 {a : Nat → Nat → Nat} {Q1 : Int32 → zSt → Prop} {p1 : Int32} {p2 : Int32} {p3 : Int32} {p4 : Int32} {u7 : zSt} (C : zCx p s m args c cX7_adds 5 RX7 wsX7_adds D cI cZ cJ A) (Y : zDy D A s.heap (k7 a cI cZ u7) H locs) (hl : lv_has ls 5 [(0, .ref (a 7 99)), (1, .int p1), (2, .int p2), (3, .int p3), (4, .int p4)]) (hret : ∀ {pc : Nat} {H : Heap} {locs : List Loc} {ls : Array Slot} {r : Int32} {u : zSt}, zDy D A s.heap ((fun u : zSt => k7 a cI cZ u) u) H locs → Q1 r u → decode cX7_adds pc = .ok (.ireturn, 1) → W p l e ({ frames := 0, cells := 0, slots := 0, locals := 0 } : Room) s m args below meth c H locs 0 0 Q (F0 m pc ls [.int r])) (hv : wp_X7_adds_0 Q1 p1 p2 p3 p4 u7) : W p l e ({ frames := 0, cells := 0, slots := 0, locals := 0 } : Room) s m args below meth c H locs 0 0 Q (F0 m 0 ls []) := by
  unfold wp_X7_adds_0 at hv
  obtain ⟨hx, hb, hml, hown, hts, hK, hA⟩ := id C
  refine lv_aload_n hx hb dX7_adds_0 rfl (lv_at hl 0 rfl) ?_
  refine z_get C Y (Cn := RX7) (T := TX7) (N := 42) in_X7_adds_7 rfl (ge7_7 ..) 12 (by decide) fl_X7_adds_28 rfl dX7_adds_1 ?_
  refine lv_aload_n hx hb dX7_adds_4 rfl (lv_at hl 0 rfl) ?_
  refine z_get C Y (Cn := RX7) (T := TX7) (N := 42) in_X7_adds_7 rfl (ge7_7 ..) 17 (by decide) fl_X7_adds_132 rfl dX7_adds_5 ?_
  refine lv_iload_n hx hb dX7_adds_8 rfl (lv_at hl 1 rfl) ?_
  obtain ⟨hi, hv⟩ := hv
  refine z_stI C Y (pa7_7_12 ..) (sa7_7_12 ..) hi dX7_adds_9 (fun H locs Y => ?_)
  obtain ⟨u7_1, eu7_1, Y, hv⟩ := z_nm (kf := fun z => (k7 a cI cZ z)) Y hv
  refine lv_aload_n hx hb dX7_adds_10 rfl (lv_at hl 0 rfl) ?_
  refine z_get C Y (Cn := RX7) (T := TX7) (N := 42) in_X7_adds_7 rfl (ge7_7 ..) 13 (by decide) fl_X7_adds_31 rfl dX7_adds_11 ?_
  refine lv_aload_n hx hb dX7_adds_14 rfl (lv_at hl 0 rfl) ?_
  refine z_get C Y (Cn := RX7) (T := TX7) (N := 42) in_X7_adds_7 rfl (ge7_7 ..) 17 (by decide) fl_X7_adds_132 rfl dX7_adds_15 ?_
  refine lv_iload_n hx hb dX7_adds_18 rfl (lv_at hl 2 rfl) ?_
  obtain ⟨hi, hv⟩ := hv
  refine z_stI C Y (pa7_7_13 ..) (sa7_7_13 ..) hi dX7_adds_19 (fun H locs Y => ?_)
  obtain ⟨u7_2, eu7_2, Y, hv⟩ := z_nm (kf := fun z => (k7 a cI cZ z)) Y hv
  refine lv_aload_n hx hb dX7_adds_20 rfl (lv_at hl 0 rfl) ?_
  refine z_get C Y (Cn := RX7) (T := TX7) (N := 42) in_X7_adds_7 rfl (ge7_7 ..) 15 (by decide) fl_X7_adds_37 rfl dX7_adds_21 ?_
  refine lv_aload_n hx hb dX7_adds_24 rfl (lv_at hl 0 rfl) ?_
  refine z_get C Y (Cn := RX7) (T := TX7) (N := 42) in_X7_adds_7 rfl (ge7_7 ..) 17 (by decide) fl_X7_adds_132 rfl dX7_adds_25 ?_
  refine lv_iload_n hx hb dX7_adds_28 rfl (lv_at hl 3 rfl) ?_
  obtain ⟨hi, hv⟩ := hv
  refine z_stI C Y (pa7_7_15 ..) (sa7_7_15 ..) hi dX7_adds_29 (fun H locs Y => ?_)
  obtain ⟨u7_3, eu7_3, Y, hv⟩ := z_nm (kf := fun z => (k7 a cI cZ z)) Y hv
  refine lv_aload_n hx hb dX7_adds_30 rfl (lv_at hl 0 rfl) ?_
  refine z_get C Y (Cn := RX7) (T := TX7) (N := 42) in_X7_adds_7 rfl (ge7_7 ..) 16 (by decide) fl_X7_adds_40 rfl dX7_adds_31 ?_
  refine lv_aload_n hx hb dX7_adds_34 rfl (lv_at hl 0 rfl) ?_
  refine z_get C Y (Cn := RX7) (T := TX7) (N := 42) in_X7_adds_7 rfl (ge7_7 ..) 17 (by decide) fl_X7_adds_132 rfl dX7_adds_35 ?_
  refine lv_iload hx hb dX7_adds_38 (lv_at hl 4 rfl) ?_
  obtain ⟨hi, hv⟩ := hv
  refine z_stI C Y (pa7_7_16 ..) (sa7_7_16 ..) hi dX7_adds_40 (fun H locs Y => ?_)
  obtain ⟨u7_4, eu7_4, Y, hv⟩ := z_nm (kf := fun z => (k7 a cI cZ z)) Y hv
  refine lv_aload_n hx hb dX7_adds_41 rfl (lv_at hl 0 rfl) ?_
  refine lv_dup hx hb dX7_adds_42 rfl ?_
  refine z_get C Y (Cn := RX7) (T := TX7) (N := 42) in_X7_adds_7 rfl (ge7_7 ..) 17 (by decide) fl_X7_adds_132 rfl dX7_adds_43 ?_
  refine lv_iconst (v := 1) hx hb dX7_adds_46 (by decide) ?_
  refine lv_iadd hx hb dX7_adds_47 ?_
  refine z_putI C Y (Cn := RX7) (T := TX7) (N := 42) in_X7_adds_7 rfl tyX7 tyX7_ok nmX7 (ge7_7 ..) 17 (by decide) fl_X7_adds_132 rfl (by decide +kernel) (Nat.le_of_ble_eq_true rfl) (si7_7_17 ..) dX7_adds_48 (fun H locs Y => ?_)
  obtain ⟨u7_5, eu7_5, Y, hv⟩ := z_nm (kf := fun z => (k7 a cI cZ z)) Y hv
  refine lv_aload_n hx hb dX7_adds_51 rfl (lv_at hl 0 rfl) ?_
  refine z_get C Y (Cn := RX7) (T := TX7) (N := 42) in_X7_adds_7 rfl (ge7_7 ..) 17 (by decide) fl_X7_adds_132 rfl dX7_adds_52 ?_
  refine lv_iconst (v := 1) hx hb dX7_adds_55 (by decide) ?_
  refine lv_isub hx hb dX7_adds_56 ?_
  exact hret Y hv dX7_adds_57

end
abbrev TX7_adds := wp_X7_adds_0
set_option maxHeartbeats 4000000 in
set_option maxRecDepth 100000 in
theorem c_X7_adds (l : Launch) {D : va_G} {cI cZ cJ : ClassId} {a : Nat → Nat → Nat} {Q1 : Int32 → zSt → Prop} {p1 : Int32} {p2 : Int32} {p3 : Int32} {p4 : Int32} {u7 : zSt} (hv : wp_X7_adds_0 Q1 p1 p2 p3 p4 u7) : zMI l yX7_adds wsX7_adds ({ frames := 0, cells := 0, slots := 0, locals := 0 } : Room) D cI cZ cJ [.ref (a 7 99), .int p1, .int p2, .int p3, .int p4] (k7 a cI cZ u7) (fun u : zSt => k7 a cI cZ u) Q1 :=
  z_ofI (by decide) rfl rfl (Nat.le_of_ble_eq_true rfl) (fun C Y hl hret => bk_X7_adds_0 C Y hl hret hv)


