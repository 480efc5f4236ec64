theorem in_X6_trial_3 : ∀ w ∈ wsX30, w ∈ wsX6_trial := by first | exact fun w h => List.mem_cons_of_mem _ (List.mem_append_right _ h) | exact fun w h => List.mem_cons_of_mem _ (List.mem_append_left _ (List.mem_append_right _ h)) | decide +kernel
theorem in_X6_trial_5 : ∀ w ∈ wsX50, w ∈ wsX6_trial := by first | exact fun w h => List.mem_cons_of_mem _ (List.mem_append_right _ h) | exact fun w h => List.mem_cons_of_mem _ (List.mem_append_left _ (List.mem_append_right _ h)) | decide +kernel
theorem in_X6_trial_6 : ∀ w ∈ wsX60, w ∈ wsX6_trial := by first | exact fun w h => List.mem_cons_of_mem _ (List.mem_append_right _ h) | exact fun w h => List.mem_cons_of_mem _ (List.mem_append_left _ (List.mem_append_right _ h)) | decide +kernel
theorem fl_X6_trial_19 : Cond.fieldLink RX6 19 (TX6 1).1 (TX6 1).2.1 (TX6 1).2.2.1 ∈ wsX6_trial := by decide +kernel
theorem fl_X6_trial_26 : Cond.fieldLink RX6 26 (TX6 2).1 (TX6 2).2.1 (TX6 2).2.2.1 ∈ wsX6_trial := by decide +kernel
theorem fl_X6_trial_127 : Cond.fieldLink RX6 127 (TX3 7).1 (TX3 7).2.1 (TX3 7).2.2.1 ∈ wsX6_trial := by decide +kernel
theorem fl_X6_trial_170 : Cond.fieldLink RX6 170 (TX5 4).1 (TX5 4).2.1 (TX5 4).2.2.1 ∈ wsX6_trial := by decide +kernel
theorem th_X6_trial_14 : zThr cX6_trial RX6 wsX6_trial "java/lang/IndexOutOfBoundsException" "no such batch" 82 168 86 14 := ⟨by decide +kernel, by decide +kernel, by decide +kernel, by decide +kernel, by decide +kernel, by decide +kernel, by decide +kernel, dX6_trial_14, dX6_trial_17, dX6_trial_18, dX6_trial_20, dX6_trial_23⟩
section
variable {p : Program} {l : Launch} {e : Env} {s : State} {m : MethodId} {args : Array Value} {below : List Frame} {meth : Method} {c : Code} {H : Heap} {locs : List Loc} {Q : State → Prop} {D : va_G} {cI cZ cJ : ClassId} {A : Nat → Prop} {ls : Array Slot}
def wp_X6_trial_0 (Q1 : Int32 → (zSt × zSt × zSt × zSt × zSt × zSt) → Prop) (QX : String → (zSt × zSt × zSt × zSt × zSt × zSt) → Prop) (p1 : Int32) (p2 : Int32) (u0 : zSt) (u1 : zSt) (u2 : zSt) (u3 : zSt) (u4 : zSt) (u5 : zSt) : Prop :=
  TX6_isNumberOf (fun (r_1 : Int32) (_ : Unit) => (r_1 = (0 : Int32) → QX "java/lang/IndexOutOfBoundsException" (u0, u1, u2, u3, u4, u5)) ∧ (¬ r_1 = (0 : Int32) → ((u5.1 4) < (100 : Int32) → TX5_add (fun (r_3 : Int32) (u5_2 : zSt) => Q1 r_3 (u0, u1, u2, u3, u4, u5_2)) p1 p2 u5) ∧ (¬ (u5.1 4) < (100 : Int32) → Q1 (-1) (u0, u1, u2, u3, u4, u5)))) p1 (u3.1 7) 

set_option maxHeartbeats 4000000 in
set_option maxRecDepth 100000 in
theorem bk_X6_trial_0 {a : Nat → Nat → Nat} {Q1 : Int32 → (zSt × zSt × zSt × zSt × zSt × zSt) → Prop} {QX : String → (zSt × zSt × zSt × zSt × zSt × zSt) → Prop} {p1 : Int32} {p2 : Int32} {u0 : zSt} {u1 : zSt} {u2 : zSt} {u3 : zSt} {u4 : zSt} {u5 : zSt} (C : zCx p s m args c cX6_trial 3 RX6 wsX6_trial D cI cZ cJ A) (Y : zDy D A s.heap (k6 a cI cZ (u0, u1, u2, u3, u4, u5)) H locs) (hl : lv_has ls 3 [(0, .ref (a 6 99)), (1, .int p1), (2, .int p2)]) (hret : ∀ {pc : Nat} {H : Heap} {locs : List Loc} {ls : Array Slot} {r : Int32} {u : zSt × zSt × zSt × zSt × zSt × zSt}, zDy D A s.heap ((fun u : zSt × zSt × zSt × zSt × zSt × zSt => k6 a cI cZ u) u) H locs → Q1 r u → decode cX6_trial pc = .ok (.ireturn, 1) → W p l e ({ frames := 6, cells := 1, slots := 6, locals := 90 } : Room) s m args below meth c H locs 0 0 Q (F0 m pc ls [.int r])) (hthr : ∀ {pc : Nat} {H : Heap} {locs : List Loc} {ls : Array Slot} {rest : List Value} {u : zSt × zSt × zSt × zSt × zSt × zSt} {E text : String} {ik is ic : Nat}, zDy D A s.heap ((fun u : zSt × zSt × zSt × zSt × zSt × zSt => k6 a cI cZ u) u) H locs → QX E u → zThr cX6_trial RX6 wsX6_trial E text ik is ic pc → ls.size = 3 → (rest.map fun v => v.category).sum ≤ 8 → W p l e ({ frames := 6, cells := 1, slots := 6, locals := 90 } : Room) s m args below meth c H locs 0 0 Q (F0 m pc ls rest)) (hv : wp_X6_trial_0 Q1 QX p1 p2 u0 u1 u2 u3 u4 u5) : W p l e ({ frames := 6, cells := 1, slots := 6, locals := 90 } : Room) s m args below meth c H locs 0 0 Q (F0 m 0 ls []) := by
  unfold wp_X6_trial_0 at hv
  obtain ⟨hx, hb, hml, hown, hts, hK, hA⟩ := id C
  refine lv_iload_n hx hb dX6_trial_0 rfl (lv_at hl 1 rfl) ?_
  refine lv_aload_n hx hb dX6_trial_1 rfl (lv_at hl 0 rfl) ?_
  refine z_get C Y (Cn := RX6) (T := TX6) (N := 6) in_X6_trial_6 rfl (ge6_6 ..) 1 (by decide) fl_X6_trial_19 rfl dX6_trial_2 ?_
  refine z_get C Y (Cn := RX3) (T := TX3) (N := 9) in_X6_trial_3 rfl (ge6_3 ..) 7 (by decide) fl_X6_trial_127 rfl dX6_trial_5 ?_
  refine z_callSi C Y (c_X6_isNumberOf l hv) (zFr.nil _) (va_cwS 2 hts gX6_trial_X6_isNumberOf rfl rfl rfl (by decide +kernel) ⟨(Nat.le_of_ble_eq_true rfl), (Nat.le_of_ble_eq_true rfl)⟩) rfl hl.1 rfl (Nat.le_of_ble_eq_true rfl) dX6_trial_8 ⟨Nat.zero_le _, Nat.zero_le _⟩ (fun r_1 _ H locs Y hv => ?_)
  refine lv_if_ne (tgt := 24) hx hb dX6_trial_11 (by decide) (fun hc => ?_) (fun hc => ?_)
  · have hv := hv.2 hc
    refine lv_aload_n hx hb dX6_trial_24 rfl (lv_at hl 0 rfl) ?_
    refine z_get C Y (Cn := RX6) (T := TX6) (N := 6) in_X6_trial_6 rfl (ge6_6 ..) 2 (by decide) fl_X6_trial_26 rfl dX6_trial_25 ?_
    refine z_get C Y (Cn := RX5) (T := TX5) (N := 6) in_X6_trial_5 rfl (ge6_5 ..) 4 (by decide) fl_X6_trial_170 rfl dX6_trial_28 ?_
    refine lv_bipush (v := 100) hx hb dX6_trial_31 (by decide) ?_
    refine lv_icmp_lt (tgt := 40) hx hb dX6_trial_33 (by decide) (fun hc => ?_) (fun hc => ?_)
    · have hv := hv.1 hc
      refine lv_aload_n hx hb dX6_trial_40 rfl (lv_at hl 0 rfl) ?_
      refine z_get C Y (Cn := RX6) (T := TX6) (N := 6) in_X6_trial_6 rfl (ge6_6 ..) 2 (by decide) fl_X6_trial_26 rfl dX6_trial_41 ?_
      refine lv_iload_n hx hb dX6_trial_44 rfl (lv_at hl 1 rfl) ?_
      refine lv_iload_n hx hb dX6_trial_45 rfl (lv_at hl 2 rfl) ?_
      refine z_callVi C Y (c_X5_add l hv) (fr6_5 ..) (cwV 2 hts gX6_trial_X5_add rfl rfl rfl (by decide +kernel) ⟨(Nat.le_of_ble_eq_true rfl), (Nat.le_of_ble_eq_true rfl)⟩) (ge5_5 ..) rfl rfl rfl hl.1 rfl (Nat.le_of_ble_eq_true rfl) dX6_trial_46 ⟨Nat.zero_le _, Nat.zero_le _⟩ (fun r_3 u5_2 H locs Y hv => ?_)
      exact hret Y hv dX6_trial_49
    · have hv := hv.2 hc
      refine lv_iconst (v := (-1)) hx hb dX6_trial_36 (by decide) ?_
      refine lv_goto (tgt := 49) hx hb dX6_trial_37 (by decide) ?_
      exact hret Y hv dX6_trial_49
  · have hv := hv.1 hc
    exact hthr Y hv th_X6_trial_14 hl.1 (Nat.le_of_ble_eq_true rfl)

end
abbrev TX6_trial := wp_X6_trial_0
set_option maxHeartbeats 4000000 in
set_option maxRecDepth 100000 in
theorem c_X6_trial (l : Launch) {D : va_G} {cI cZ cJ : ClassId} {a : Nat → Nat → Nat} (hlt : l.stackTraces = false) {Q1 : Int32 → (zSt × zSt × zSt × zSt × zSt × zSt) → Prop} {QX : String → (zSt × zSt × zSt × zSt × zSt × zSt) → Prop} {p1 : Int32} {p2 : Int32} {u0 : zSt} {u1 : zSt} {u2 : zSt} {u3 : zSt} {u4 : zSt} {u5 : zSt} (hv : wp_X6_trial_0 Q1 QX p1 p2 u0 u1 u2 u3 u4 u5) : zXI l yX6_trial wsX6_trial ({ frames := 6, cells := 1, slots := 6, locals := 90 } : Room) D cI cZ cJ [.ref (a 6 99), .int p1, .int p2] (k6 a cI cZ (u0, u1, u2, u3, u4, u5)) (fun u : zSt × zSt × zSt × zSt × zSt × zSt => k6 a cI cZ u) Q1 QX :=
  z_ofXI hlt ⟨Nat.le_of_ble_eq_true rfl, Nat.le_of_ble_eq_true rfl, Nat.le_of_ble_eq_true rfl, Nat.le_of_ble_eq_true rfl⟩ (by decide) rfl rfl (Nat.le_of_ble_eq_true rfl) (fun C Y hl hret hthr => bk_X6_trial_0 C Y hl hret hthr hv)


theorem in_X6_undo_5 : ∀ w ∈ wsX50, w ∈ wsX6_undo := by first | exact fun w h => List.mem_cons_of_mem _ (List.mem_append_right _ h) | exact fun w h => List.mem_cons_of_mem _ (List.mem_append_left _ (List.mem_append_right _ h)) | decide +kernel
theorem in_X6_undo_6 : ∀ w ∈ wsX60, w ∈ wsX6_undo := by first | exact fun w h => List.mem_cons_of_mem _ (List.mem_append_right _ h) | exact fun w h => List.mem_cons_of_mem _ (List.mem_append_left _ (List.mem_append_right _ h)) | decide +kernel
theorem fl_X6_undo_26 : Cond.fieldLink RX6 26 (TX6 2).1 (TX6 2).2.1 (TX6 2).2.2.1 ∈ wsX6_undo := by decide +kernel
theorem fl_X6_undo_170 : Cond.fieldLink RX6 170 (TX5 4).1 (TX5 4).2.1 (TX5 4).2.2.1 ∈ wsX6_undo := by decide +kernel
theorem th_X6_undo_14 : zThr cX6_undo RX6 wsX6_undo "java/lang/IndexOutOfBoundsException" "no such trial" 82 174 86 14 := ⟨by decide +kernel, by decide +kernel, by decide +kernel, by decide +kernel, by decide +kernel, by decide +kernel, by decide +kernel, dX6_undo_14, dX6_undo_17, dX6_undo_18, dX6_undo_20, dX6_undo_23⟩
section
variable {p : Program} {l : Launch} {e : Env} {s : State} {m : MethodId} {args : Array Value} {below : List Frame} {meth : Method} {c : Code} {H : Heap} {locs : List Loc} {Q : State → Prop} {D : va_G} {cI cZ cJ : ClassId} {A : Nat → Prop} {ls : Array Slot}
def wp_X6_undo_0 (Q1 : Int32 → (zSt × zSt × zSt × zSt × zSt × zSt) → Prop) (QX : String → (zSt × zSt × zSt × zSt × zSt × zSt) → Prop) (p1 : Int32) (u0 : zSt) (u1 : zSt) (u2 : zSt) (u3 : zSt) (u4 : zSt) (u5 : zSt) : Prop :=
  TX6_isNumberOf (fun (r_1 : Int32) (_ : Unit) => (r_1 = (0 : Int32) → QX "java/lang/IndexOutOfBoundsException" (u0, u1, u2, u3, u4, u5)) ∧ (¬ r_1 = (0 : Int32) → TX5_takeBack (fun (r_3 : Int32) (u5_2 : zSt) => (r_3 = 0 ∨ r_3 = 1) ∧ Q1 r_3 (u0, u1, u2, u3, u4, u5_2)) p1 u5)) p1 (u5.1 4) 

set_option maxHeartbeats 4000000 in
set_option maxRecDepth 100000 in
theorem bk_X6_undo_0 {a : Nat → Nat → Nat} {Q1 : Int32 → (zSt × zSt × zSt × zSt × zSt × zSt) → Prop} {QX : String → (zSt × zSt × zSt × zSt × zSt × zSt) → Prop} {p1 : Int32} {u0 : zSt} {u1 : zSt} {u2 : zSt} {u3 : zSt} {u4 : zSt} {u5 : zSt} (C : zCx p s m args c cX6_undo 2 RX6 wsX6_undo D cI cZ cJ A) (Y : zDy D A s.heap (k6 a cI cZ (u0, u1, u2, u3, u4, u5)) H locs) (hl : lv_has ls 2 [(0, .ref (a 6 99)), (1, .int p1)]) (hret : ∀ {pc : Nat} {H : Heap} {locs : List Loc} {ls : Array Slot} {r : Int32} {u : zSt × zSt × zSt × zSt × zSt × zSt}, zDy D A s.heap ((fun u : zSt × zSt × zSt × zSt × zSt × zSt => k6 a cI cZ u) u) H locs → (r = 0 ∨ r = 1) → Q1 r u → decode cX6_undo pc = .ok (.ireturn, 1) → W p l e ({ frames := 6, cells := 1, slots := 6, locals := 90 } : Room) s m args below meth c H locs 0 0 Q (F0 m pc ls [.int r])) (hthr : ∀ {pc : Nat} {H : Heap} {locs : List Loc} {ls : Array Slot} {rest : List Value} {u : zSt × zSt × zSt × zSt × zSt × zSt} {E text : String} {ik is ic : Nat}, zDy D A s.heap ((fun u : zSt × zSt × zSt × zSt × zSt × zSt => k6 a cI cZ u) u) H locs → QX E u → zThr cX6_undo RX6 wsX6_undo E text ik is ic pc → ls.size = 2 → (rest.map fun v => v.category).sum ≤ 8 → W p l e ({ frames := 6, cells := 1, slots := 6, locals := 90 } : Room) s m args below meth c H locs 0 0 Q (F0 m pc ls rest)) (hv : wp_X6_undo_0 Q1 QX p1 u0 u1 u2 u3 u4 u5) : W p l e ({ frames := 6, cells := 1, slots := 6, locals := 90 } : Room) s m args below meth c H locs 0 0 Q (F0 m 0 ls []) := by
  unfold wp_X6_undo_0 at hv
  obtain ⟨hx, hb, hml, hown, hts, hK, hA⟩ := id C
  refine lv_iload_n hx hb dX6_undo_0 rfl (lv_at hl 1 rfl) ?_
  refine lv_aload_n hx hb dX6_undo_1 rfl (lv_at hl 0 rfl) ?_
  refine z_get C Y (Cn := RX6) (T := TX6) (N := 6) in_X6_undo_6 rfl (ge6_6 ..) 2 (by decide) fl_X6_undo_26 rfl dX6_undo_2 ?_
  refine z_get C Y (Cn := RX5) (T := TX5) (N := 6) in_X6_undo_5 rfl (ge6_5 ..) 4 (by decide) fl_X6_undo_170 rfl dX6_undo_5 ?_
  refine z_callSi C Y (c_X6_isNumberOf l hv) (zFr.nil _) (va_cwS 2 hts gX6_undo_X6_isNumberOf rfl rfl rfl (by decide +kernel) ⟨(Nat.le_of_ble_eq_true rfl), (Nat.le_of_ble_eq_true rfl)⟩) rfl hl.1 rfl (Nat.le_of_ble_eq_true rfl) dX6_undo_8 ⟨Nat.zero_le _, Nat.zero_le _⟩ (fun r_1 _ H locs Y hv => ?_)
  refine lv_if_ne (tgt := 24) hx hb dX6_undo_11 (by decide) (fun hc => ?_) (fun hc => ?_)
  · have hv := hv.2 hc
    refine lv_aload_n hx hb dX6_undo_24 rfl (lv_at hl 0 rfl) ?_
    refine z_get C Y (Cn := RX6) (T := TX6) (N := 6) in_X6_undo_6 rfl (ge6_6 ..) 2 (by decide) fl_X6_undo_26 rfl dX6_undo_25 ?_
    refine lv_iload_n hx hb dX6_undo_28 rfl (lv_at hl 1 rfl) ?_
    refine z_callVi C Y (c_X5_takeBack l hv) (fr6_5 ..) (cwV 1 hts gX6_undo_X5_takeBack rfl rfl rfl (by decide +kernel) ⟨(Nat.le_of_ble_eq_true rfl), (Nat.le_of_ble_eq_true rfl)⟩) (ge5_5 ..) rfl rfl rfl hl.1 rfl (Nat.le_of_ble_eq_true rfl) dX6_undo_29 ⟨Nat.zero_le _, Nat.zero_le _⟩ (fun r_3 u5_2 H locs Y hv => ?_)
    exact hret Y hv.1 hv.2 dX6_undo_32
  · have hv := hv.1 hc
    exact hthr Y hv th_X6_undo_14 hl.1 (Nat.le_of_ble_eq_true rfl)

end
abbrev TX6_undo := wp_X6_undo_0
set_option maxHeartbeats 4000000 in
set_option maxRecDepth 100000 in
theorem c_X6_undo (l : Launch) {D : va_G} {cI cZ cJ : ClassId} {a : Nat → Nat → Nat} (hlt : l.stackTraces = false) {Q1 : Int32 → (zSt × zSt × zSt × zSt × zSt × zSt) → Prop} {QX : String → (zSt × zSt × zSt × zSt × zSt × zSt) → Prop} {p1 : Int32} {u0 : zSt} {u1 : zSt} {u2 : zSt} {u3 : zSt} {u4 : zSt} {u5 : zSt} (hv : wp_X6_undo_0 Q1 QX p1 u0 u1 u2 u3 u4 u5) : zXI l yX6_undo wsX6_undo ({ frames := 6, cells := 1, slots := 6, locals := 90 } : Room) D cI cZ cJ [.ref (a 6 99), .int p1] (k6 a cI cZ (u0, u1, u2, u3, u4, u5)) (fun u : zSt × zSt × zSt × zSt × zSt × zSt => k6 a cI cZ u) Q1 QX :=
  z_ofXZ hlt ⟨Nat.le_of_ble_eq_true rfl, Nat.le_of_ble_eq_true rfl, Nat.le_of_ble_eq_true rfl, Nat.le_of_ble_eq_true rfl⟩ (by decide) rfl rfl (Nat.le_of_ble_eq_true rfl) (fun C Y hl hret hthr => bk_X6_undo_0 C Y hl hret hthr hv)


theorem in_X6_days_5 : ∀ w ∈ wsX50, w ∈ wsX6_days := by first | exact fun w h => List.mem_cons_of_mem _ (List.mem_append_right _ h) | exact fun w h => List.mem_cons_of_mem _ (List.mem_append_left _ (List.mem_append_right _ h)) | decide +kernel
theorem in_X6_days_6 : ∀ w ∈ wsX60, w ∈ wsX6_days := by first | exact fun w h => List.mem_cons_of_mem _ (List.mem_append_right _ h) | exact fun w h => List.mem_cons_of_mem _ (List.mem_append_left _ (List.mem_append_right _ h)) | decide +kernel
theorem fl_X6_days_26 : Cond.fieldLink RX6 26 (TX6 2).1 (TX6 2).2.1 (TX6 2).2.2.1 ∈ wsX6_days := by decide +kernel
theorem fl_X6_days_152 : Cond.fieldLink RX6 152 (TX5 5).1 (TX5 5).2.1 (TX5 5).2.2.1 ∈ wsX6_days := by decide +kernel
theorem mm_X6_days_min : z_mw RX6 182 Lib.Math.min.name Lib.Math.min.code wsX6_days := ⟨by decide +kernel, by decide +kernel, by decide +kernel, by decide +kernel⟩
theorem th_X6_days_10 : zThr cX6_days RX6 wsX6_days "java/lang/IllegalArgumentException" "days are not 0 to 100" 59 180 63 10 := ⟨by decide +kernel, by decide +kernel, by decide +kernel, by decide +kernel, by decide +kernel, by decide +kernel, by decide +kernel, dX6_days_10, dX6_days_13, dX6_days_14, dX6_days_16, dX6_days_19⟩
section
variable {p : Program} {l : Launch} {e : Env} {s : State} {m : MethodId} {args : Array Value} {below : List Frame} {meth : Method} {c : Code} {H : Heap} {locs : List Loc} {Q : State → Prop} {D : va_G} {cI cZ cJ : ClassId} {A : Nat → Prop} {ls : Array Slot}
def wp_X6_days_0 (Q1 : Int32 → (zSt × zSt × zSt × zSt × zSt × zSt) → Prop) (QX : String → (zSt × zSt × zSt × zSt × zSt × zSt) → Prop) (p1 : Int32) (u0 : zSt) (u1 : zSt) (u2 : zSt) (u3 : zSt) (u4 : zSt) (u5 : zSt) : Prop :=
  TX6_isWithin (fun (r_1 : Int32) (_ : Unit) => (r_1 = (0 : Int32) → QX "java/lang/IllegalArgumentException" (u0, u1, u2, u3, u4, u5)) ∧ (¬ r_1 = (0 : Int32) → ∀ u5_2 : zSt, u5_2 = zI u5 5 (if (1000 : Int32) < ((u5.1 5) + p1) then 1000 else ((u5.1 5) + p1)) → Q1 (u5_2.1 5) (u0, u1, u2, u3, u4, u5_2))) p1 0 100 

set_option maxHeartbeats 4000000 in
set_option maxRecDepth 100000 in
theorem bk_X6_days_0 {a : Nat → Nat → Nat} {Q1 : Int32 → (zSt × zSt × zSt × zSt × zSt × zSt) → Prop} {QX : String → (zSt × zSt × zSt × zSt × zSt × zSt) → Prop} {p1 : Int32} {u0 : zSt} {u1 : zSt} {u2 : zSt} {u3 : zSt} {u4 : zSt} {u5 : zSt} (C : zCx p s m args c cX6_days 2 RX6 wsX6_days D cI cZ cJ A) (Y : zDy D A s.heap (k6 a cI cZ (u0, u1, u2, u3, u4, u5)) H locs) (hl : lv_has ls 2 [(0, .ref (a 6 99)), (1, .int p1)]) (hret : ∀ {pc : Nat} {H : Heap} {locs : List Loc} {ls : Array Slot} {r : Int32} {u : zSt × zSt × zSt × zSt × zSt × zSt}, zDy D A s.heap ((fun u : zSt × zSt × zSt × zSt × zSt × zSt => k6 a cI cZ u) u) H locs → Q1 r u → decode cX6_days pc = .ok (.ireturn, 1) → W p l e ({ frames := 6, cells := 1, slots := 6, locals := 90 } : Room) s m args below meth c H locs 0 0 Q (F0 m pc ls [.int r])) (hthr : ∀ {pc : Nat} {H : Heap} {locs : List Loc} {ls : Array Slot} {rest : List Value} {u : zSt × zSt × zSt × zSt × zSt × zSt} {E text : String} {ik is ic : Nat}, zDy D A s.heap ((fun u : zSt × zSt × zSt × zSt × zSt × zSt => k6 a cI cZ u) u) H locs → QX E u → zThr cX6_days RX6 wsX6_days E text ik is ic pc → ls.size = 2 → (rest.map fun v => v.category).sum ≤ 8 → W p l e ({ frames := 6, cells := 1, slots := 6, locals := 90 } : Room) s m args below meth c H locs 0 0 Q (F0 m pc ls rest)) (hv : wp_X6_days_0 Q1 QX p1 u0 u1 u2 u3 u4 u5) : W p l e ({ frames := 6, cells := 1, slots := 6, locals := 90 } : Room) s m args below meth c H locs 0 0 Q (F0 m 0 ls []) := by
  unfold wp_X6_days_0 at hv
  obtain ⟨hx, hb, hml, hown, hts, hK, hA⟩ := id C
  refine lv_iload_n hx hb dX6_days_0 rfl (lv_at hl 1 rfl) ?_
  refine lv_iconst (v := 0) hx hb dX6_days_1 (by decide) ?_
  refine lv_bipush (v := 100) hx hb dX6_days_2 (by decide) ?_
  refine z_callSi C Y (c_X6_isWithin l hv) (zFr.nil _) (va_cwS 3 hts gX6_days_X6_isWithin rfl rfl rfl (by decide +kernel) ⟨(Nat.le_of_ble_eq_true rfl), (Nat.le_of_ble_eq_true rfl)⟩) rfl hl.1 rfl (Nat.le_of_ble_eq_true rfl) dX6_days_4 ⟨Nat.zero_le _, Nat.zero_le _⟩ (fun r_1 _ H locs Y hv => ?_)
  refine lv_if_ne (tgt := 20) hx hb dX6_days_7 (by decide) (fun hc => ?_) (fun hc => ?_)
  · have hv := hv.2 hc
    refine lv_aload_n hx hb dX6_days_20 rfl (lv_at hl 0 rfl) ?_
    refine z_get C Y (Cn := RX6) (T := TX6) (N := 6) in_X6_days_6 rfl (ge6_6 ..) 2 (by decide) fl_X6_days_26 rfl dX6_days_21 ?_
    refine lv_aload_n hx hb dX6_days_24 rfl (lv_at hl 0 rfl) ?_
    refine z_get C Y (Cn := RX6) (T := TX6) (N := 6) in_X6_days_6 rfl (ge6_6 ..) 2 (by decide) fl_X6_days_26 rfl dX6_days_25 ?_
    refine z_get C Y (Cn := RX5) (T := TX5) (N := 6) in_X6_days_5 rfl (ge6_5 ..) 5 (by decide) fl_X6_days_152 rfl dX6_days_28 ?_
    refine lv_iload_n hx hb dX6_days_31 rfl (lv_at hl 1 rfl) ?_
    refine lv_iadd hx hb dX6_days_32 ?_
    refine lv_sipush (v := 1000) hx hb dX6_days_33 (by decide) ?_
    refine z_mmin C hl.1 mm_X6_days_min (Nat.le_of_ble_eq_true rfl) (Nat.le_of_ble_eq_true rfl) (Nat.zero_le _) (Nat.zero_le _) dX6_days_36 ?_
    refine z_putI C Y (Cn := RX5) (T := TX5) (N := 6) in_X6_days_5 rfl tyX5 tyX5_ok nmX5 (ge6_5 ..) 5 (by decide) fl_X6_days_152 rfl (by decide +kernel) (Nat.le_of_ble_eq_true rfl) (si6_5_5 ..) dX6_days_39 (fun H locs Y => ?_)
    obtain ⟨u5_2, eu5_2, Y, hv⟩ := z_nm (kf := fun z => (k6 a cI cZ (u0, u1, u2, u3, u4, z))) Y hv
    refine lv_aload_n hx hb dX6_days_42 rfl (lv_at hl 0 rfl) ?_
    refine z_get C Y (Cn := RX6) (T := TX6) (N := 6) in_X6_days_6 rfl (ge6_6 ..) 2 (by decide) fl_X6_days_26 rfl dX6_days_43 ?_
    refine z_get C Y (Cn := RX5) (T := TX5) (N := 6) in_X6_days_5 rfl (ge6_5 ..) 5 (by decide) fl_X6_days_152 rfl dX6_days_46 ?_
    exact hret Y hv dX6_days_49
  · have hv := hv.1 hc
    exact hthr Y hv th_X6_days_10 hl.1 (Nat.le_of_ble_eq_true rfl)

end
abbrev TX6_days := wp_X6_days_0
set_option maxHeartbeats 4000000 in
set_option maxRecDepth 100000 in
theorem c_X6_days (l : Launch) {D : va_G} {cI cZ cJ : ClassId} {a : Nat → Nat → Nat} (hlt : l.stackTraces = false) {Q1 : Int32 → (zSt × zSt × zSt × zSt × zSt × zSt) → Prop} {QX : String → (zSt × zSt × zSt × zSt × zSt × zSt) → Prop} {p1 : Int32} {u0 : zSt} {u1 : zSt} {u2 : zSt} {u3 : zSt} {u4 : zSt} {u5 : zSt} (hv : wp_X6_days_0 Q1 QX p1 u0 u1 u2 u3 u4 u5) : zXI l yX6_days wsX6_days ({ frames := 6, cells := 1, slots := 6, locals := 90 } : Room) D cI cZ cJ [.ref (a 6 99), .int p1] (k6 a cI cZ (u0, u1, u2, u3, u4, u5)) (fun u : zSt × zSt × zSt × zSt × zSt × zSt => k6 a cI cZ u) Q1 QX :=
  z_ofXI hlt ⟨Nat.le_of_ble_eq_true rfl, Nat.le_of_ble_eq_true rfl, Nat.le_of_ble_eq_true rfl, Nat.le_of_ble_eq_true rfl⟩ (by decide) rfl rfl (Nat.le_of_ble_eq_true rfl) (fun C Y hl hret hthr => bk_X6_days_0 C Y hl hret hthr hv)


theorem in_X6_explain_0 : ∀ w ∈ wsX00, w ∈ wsX6_explain := by first | exact fun w h => List.mem_cons_of_mem _ (List.mem_append_right _ h) | exact fun w h => List.mem_cons_of_mem _ (List.mem_append_left _ (List.mem_append_right _ h)) | decide +kernel
theorem in_X6_explain_6 : ∀ w ∈ wsX60, w ∈ wsX6_explain := by first | exact fun w h => List.mem_cons_of_mem _ (List.mem_append_right _ h) | exact fun w h => List.mem_cons_of_mem _ (List.mem_append_left _ (List.mem_append_right _ h)) | decide +kernel
theorem fl_X6_explain_19 : Cond.fieldLink RX6 19 (TX6 1).1 (TX6 1).2.1 (TX6 1).2.2.1 ∈ wsX6_explain := by decide +kernel
theorem fl_X6_explain_26 : Cond.fieldLink RX6 26 (TX6 2).1 (TX6 2).2.1 (TX6 2).2.2.1 ∈ wsX6_explain := by decide +kernel
theorem fl_X6_explain_33 : Cond.fieldLink RX6 33 (TX6 3).1 (TX6 3).2.1 (TX6 3).2.2.1 ∈ wsX6_explain := by decide +kernel
theorem fl_X6_explain_191 : Cond.fieldLink RX6 191 (TX0 0).1 (TX0 0).2.1 (TX0 0).2.2.1 ∈ wsX6_explain := by decide +kernel
theorem fl_X6_explain_194 : Cond.fieldLink RX6 194 (TX0 1).1 (TX0 1).2.1 (TX0 1).2.2.1 ∈ wsX6_explain := by decide +kernel
theorem fl_X6_explain_197 : Cond.fieldLink RX6 197 (TX0 2).1 (TX0 2).2.1 (TX0 2).2.2.1 ∈ wsX6_explain := by decide +kernel
theorem th_X6_explain_9 : zThr cX6_explain RX6 wsX6_explain "java/util/NoSuchElementException" "no such what" 163 165 167 9 := ⟨by decide +kernel, by decide +kernel, by decide +kernel, by decide +kernel, by decide +kernel, by decide +kernel, by decide +kernel, dX6_explain_9, dX6_explain_12, dX6_explain_13, dX6_explain_15, dX6_explain_18⟩
section
variable {p : Program} {l : Launch} {e : Env} {s : State} {m : MethodId} {args : Array Value} {below : List Frame} {meth : Method} {c : Code} {H : Heap} {locs : List Loc} {Q : State → Prop} {D : va_G} {cI cZ cJ : ClassId} {A : Nat → Prop} {ls : Array Slot}
def wp_X6_explain_0 (Q1 : Int32 → (zSt × zSt × zSt × zSt × zSt × zSt) → Prop) (QX : String → (zSt × zSt × zSt × zSt × zSt × zSt) → Prop) (p1 : Int32) (p2 : Int32) (u0 : zSt) (u1 : zSt) (u2 : zSt) (u3 : zSt) (u4 : zSt) (u5 : zSt) : Prop :=
  TX6_isWithin (fun (r_1 : Int32) (_ : Unit) => (r_1 = (0 : Int32) → QX "java/util/NoSuchElementException" (u0, u1, u2, u3, u4, u5)) ∧ (¬ r_1 = (0 : Int32) → TX5_batchesThat (fun (r_3 : Int64) (u5_2 : zSt) => TX5_batchesThat (fun (r_5 : Int64) (u5_4 : zSt) => TX0_seek (fun (w_9 : zSt × zSt) => (p2 = (0 : Int32) → Q1 (w_9.1.1 0) (w_9.1, u1, u2, w_9.2, u4, u5_4)) ∧ (¬ p2 = (0 : Int32) → (p2 = (1 : Int32) → Q1 (w_9.1.1 1) (w_9.1, u1, u2, w_9.2, u4, u5_4)) ∧ (¬ p2 = (1 : Int32) → Q1 (w_9.1.1 2) (w_9.1, u1, u2, w_9.2, u4, u5_4)))) r_3 r_5 u0 u3) 0 p1 u5_2) 1 p1 u5)) p2 0 2 

set_option maxHeartbeats 4000000 in
set_option maxRecDepth 100000 in
theorem bk_X6_explain_0 {a : Nat → Nat → Nat} {Q1 : Int32 → (zSt × zSt × zSt × zSt × zSt × zSt) → Prop} {QX : String → (zSt × zSt × zSt × zSt × zSt × zSt) → Prop} {p1 : Int32} {p2 : Int32} {u0 : zSt} {u1 : zSt} {u2 : zSt} {u3 : zSt} {u4 : zSt} {u5 : zSt} (C : zCx p s m args c cX6_explain 3 RX6 wsX6_explain D cI cZ cJ A) (Y : zDy D A s.heap (k6 a cI cZ (u0, u1, u2, u3, u4, u5)) H locs) (hl : lv_has ls 3 [(0, .ref (a 6 99)), (1, .int p1), (2, .int p2)]) (hret : ∀ {pc : Nat} {H : Heap} {locs : List Loc} {ls : Array Slot} {r : Int32} {u : zSt × zSt × zSt × zSt × zSt × zSt}, zDy D A s.heap ((fun u : zSt × zSt × zSt × zSt × zSt × zSt => k6 a cI cZ u) u) H locs → Q1 r u → decode cX6_explain pc = .ok (.ireturn, 1) → W p l e ({ frames := 32, cells := 1, slots := 6, locals := 949 } : Room) s m args below meth c H locs 0 0 Q (F0 m pc ls [.int r])) (hthr : ∀ {pc : Nat} {H : Heap} {locs : List Loc} {ls : Array Slot} {rest : List Value} {u : zSt × zSt × zSt × zSt × zSt × zSt} {E text : String} {ik is ic : Nat}, zDy D A s.heap ((fun u : zSt × zSt × zSt × zSt × zSt × zSt => k6 a cI cZ u) u) H locs → QX E u → zThr cX6_explain RX6 wsX6_explain E text ik is ic pc → ls.size = 3 → (rest.map fun v => v.category).sum ≤ 8 → W p l e ({ frames := 32, cells := 1, slots := 6, locals := 949 } : Room) s m args below meth c H locs 0 0 Q (F0 m pc ls rest)) (hv : wp_X6_explain_0 Q1 QX p1 p2 u0 u1 u2 u3 u4 u5) : W p l e ({ frames := 32, cells := 1, slots := 6, locals := 949 } : Room) s m args below meth c H locs 0 0 Q (F0 m 0 ls []) := by
  unfold wp_X6_explain_0 at hv
  obtain ⟨hx, hb, hml, hown, hts, hK, hA⟩ := id C
  refine lv_iload_n hx hb dX6_explain_0 rfl (lv_at hl 2 rfl) ?_
  refine lv_iconst (v := 0) hx hb dX6_explain_1 (by decide) ?_
  refine lv_iconst (v := 2) hx hb dX6_explain_2 (by decide) ?_
  refine z_callSi C Y (c_X6_isWithin l hv) (zFr.nil _) (va_cwS 3 hts gX6_explain_X6_isWithin rfl rfl rfl (by decide +kernel) ⟨(Nat.le_of_ble_eq_true rfl), (Nat.le_of_ble_eq_true rfl)⟩) rfl hl.1 rfl (Nat.le_of_ble_eq_true rfl) dX6_explain_3 ⟨Nat.zero_le _, Nat.zero_le _⟩ (fun r_1 _ H locs Y hv => ?_)
  refine lv_if_ne (tgt := 19) hx hb dX6_explain_6 (by decide) (fun hc => ?_) (fun hc => ?_)
  · have hv := hv.2 hc
    refine lv_aload_n hx hb dX6_explain_19 rfl (lv_at hl 0 rfl) ?_
    refine z_get C Y (Cn := RX6) (T := TX6) (N := 6) in_X6_explain_6 rfl (ge6_6 ..) 3 (by decide) fl_X6_explain_33 rfl dX6_explain_20 ?_
    refine lv_aload_n hx hb dX6_explain_23 rfl (lv_at hl 0 rfl) ?_
    refine z_get C Y (Cn := RX6) (T := TX6) (N := 6) in_X6_explain_6 rfl (ge6_6 ..) 1 (by decide) fl_X6_explain_19 rfl dX6_explain_24 ?_
    refine lv_aload_n hx hb dX6_explain_27 rfl (lv_at hl 0 rfl) ?_
    refine z_get C Y (Cn := RX6) (T := TX6) (N := 6) in_X6_explain_6 rfl (ge6_6 ..) 2 (by decide) fl_X6_explain_26 rfl dX6_explain_28 ?_
    refine lv_iconst (v := 1) hx hb dX6_explain_31 (by decide) ?_
    refine lv_iload_n hx hb dX6_explain_32 rfl (lv_at hl 1 rfl) ?_
    refine z_callVl C Y (c_X5_batchesThat l hv) (fr6_5 ..) (cwV 2 hts gX6_explain_X5_batchesThat rfl rfl rfl (by decide +kernel) ⟨(Nat.le_of_ble_eq_true rfl), (Nat.le_of_ble_eq_true rfl)⟩) (ge5_5 ..) rfl rfl rfl hl.1 rfl (Nat.le_of_ble_eq_true rfl) dX6_explain_33 ⟨Nat.zero_le _, Nat.zero_le _⟩ (fun r_3 u5_2 H locs Y hv => ?_)
    refine lv_aload_n hx hb dX6_explain_36 rfl (lv_at hl 0 rfl) ?_
    refine z_get C Y (Cn := RX6) (T := TX6) (N := 6) in_X6_explain_6 rfl (ge6_6 ..) 2 (by decide) fl_X6_explain_26 rfl dX6_explain_37 ?_
    refine lv_iconst (v := 0) hx hb dX6_explain_40 (by decide) ?_
    refine lv_iload_n hx hb dX6_explain_41 rfl (lv_at hl 1 rfl) ?_
    refine z_callVl C Y (c_X5_batchesThat l hv) (fr6_5 ..) (cwV 2 hts gX6_explain_X5_batchesThat rfl rfl rfl (by decide +kernel) ⟨(Nat.le_of_ble_eq_true rfl), (Nat.le_of_ble_eq_true rfl)⟩) (ge5_5 ..) rfl rfl rfl hl.1 rfl (Nat.le_of_ble_eq_true rfl) dX6_explain_42 ⟨Nat.zero_le _, Nat.zero_le _⟩ (fun r_5 u5_4 H locs Y hv => ?_)
    refine z_callVv C Y (c_X0_seek l hv) (fr6_b ..) (cwV 3 hts gX6_explain_X0_seek rfl rfl rfl (by decide +kernel) ⟨(Nat.le_of_ble_eq_true rfl), (Nat.le_of_ble_eq_true rfl)⟩) (geb_0 ..) rfl rfl rfl hl.1 rfl (Nat.le_of_ble_eq_true rfl) dX6_explain_45 ⟨Nat.zero_le _, Nat.zero_le _⟩ (fun ⟨u0_6, u3_7⟩ H locs Y hv => ?_)
    refine lv_iload_n hx hb dX6_explain_48 rfl (lv_at hl 2 rfl) ?_
    refine lv_if_ne (tgt := 60) hx hb dX6_explain_49 (by decide) (fun hc => ?_) (fun hc => ?_)
    · have hv := hv.2 hc
      refine lv_iload_n hx hb dX6_explain_60 rfl (lv_at hl 2 rfl) ?_
      refine lv_iconst (v := 1) hx hb dX6_explain_61 (by decide) ?_
      refine lv_icmp_ne (tgt := 75) hx hb dX6_explain_62 (by decide) (fun hc => ?_) (fun hc => ?_)
      · have hv := hv.2 hc
        refine lv_aload_n hx hb dX6_explain_75 rfl (lv_at hl 0 rfl) ?_
        refine z_get C Y (Cn := RX6) (T := TX6) (N := 6) in_X6_explain_6 rfl (ge6_6 ..) 3 (by decide) fl_X6_explain_33 rfl dX6_explain_76 ?_
        refine z_get C Y (Cn := RX0) (T := TX0) (N := 5) in_X6_explain_0 rfl (ge6_0 ..) 2 (by decide) fl_X6_explain_197 rfl dX6_explain_79 ?_
        exact hret Y hv dX6_explain_82
      · have hv := hv.1 hc
        refine lv_aload_n hx hb dX6_explain_65 rfl (lv_at hl 0 rfl) ?_
        refine z_get C Y (Cn := RX6) (T := TX6) (N := 6) in_X6_explain_6 rfl (ge6_6 ..) 3 (by decide) fl_X6_explain_33 rfl dX6_explain_66 ?_
        refine z_get C Y (Cn := RX0) (T := TX0) (N := 5) in_X6_explain_0 rfl (ge6_0 ..) 1 (by decide) fl_X6_explain_194 rfl dX6_explain_69 ?_
        refine lv_goto (tgt := 82) hx hb dX6_explain_72 (by decide) ?_
        exact hret Y hv dX6_explain_82
    · have hv := hv.1 hc
      refine lv_aload_n hx hb dX6_explain_52 rfl (lv_at hl 0 rfl) ?_
      refine z_get C Y (Cn := RX6) (T := TX6) (N := 6) in_X6_explain_6 rfl (ge6_6 ..) 3 (by decide) fl_X6_explain_33 rfl dX6_explain_53 ?_
      refine z_get C Y (Cn := RX0) (T := TX0) (N := 5) in_X6_explain_0 rfl (ge6_0 ..) 0 (by decide) fl_X6_explain_191 rfl dX6_explain_56 ?_
      exact hret Y hv dX6_explain_59
  · have hv := hv.1 hc
    exact hthr Y hv th_X6_explain_9 hl.1 (Nat.le_of_ble_eq_true rfl)

end
abbrev TX6_explain := wp_X6_explain_0
set_option maxHeartbeats 4000000 in
set_option maxRecDepth 100000 in
theorem c_X6_explain (l : Launch) {D : va_G} {cI cZ cJ : ClassId} {a : Nat → Nat → Nat} (hlt : l.stackTraces = false) {Q1 : Int32 → (zSt × zSt × zSt × zSt × zSt × zSt) → Prop} {QX : String → (zSt × zSt × zSt × zSt × zSt × zSt) → Prop} {p1 : Int32} {p2 : Int32} {u0 : zSt} {u1 : zSt} {u2 : zSt} {u3 : zSt} {u4 : zSt} {u5 : zSt} (hv : wp_X6_explain_0 Q1 QX p1 p2 u0 u1 u2 u3 u4 u5) : zXI l yX6_explain wsX6_explain ({ frames := 32, cells := 1, slots := 6, locals := 949 } : Room) D cI cZ cJ [.ref (a 6 99), .int p1, .int p2] (k6 a cI cZ (u0, u1, u2, u3, u4, u5)) (fun u : zSt × zSt × zSt × zSt × zSt × zSt => k6 a cI cZ u) Q1 QX :=
  z_ofXI hlt ⟨Nat.le_of_ble_eq_true rfl, Nat.le_of_ble_eq_true rfl, Nat.le_of_ble_eq_true rfl, Nat.le_of_ble_eq_true rfl⟩ (by decide) rfl rfl (Nat.le_of_ble_eq_true rfl) (fun C Y hl hret hthr => bk_X6_explain_0 C Y hl hret hthr hv)


theorem in_X6_slats_6 : ∀ w ∈ wsX60, w ∈ wsX6_slats := by first | exact fun w h => List.mem_cons_of_mem _ (List.mem_append_right _ h) | exact fun w h => List.mem_cons_of_mem _ (List.mem_append_left _ (List.mem_append_right _ h)) | decide +kernel
theorem fl_X6_slats_40 : Cond.fieldLink RX6 40 (TX6 4).1 (TX6 4).2.1 (TX6 4).2.2.1 ∈ wsX6_slats := by decide +kernel
theorem th_X6_slats_21 : zThr cX6_slats RX6 wsX6_slats "java/lang/IllegalArgumentException" "a number is none" 59 200 63 21 := ⟨by decide +kernel, by decide +kernel, by decide +kernel, by decide +kernel, by decide +kernel, by decide +kernel, by decide +kernel, dX6_slats_21, dX6_slats_24, dX6_slats_25, dX6_slats_27, dX6_slats_30⟩
section
variable {p : Program} {l : Launch} {e : Env} {s : State} {m : MethodId} {args : Array Value} {below : List Frame} {meth : Method} {c : Code} {H : Heap} {locs : List Loc} {Q : State → Prop} {D : va_G} {cI cZ cJ : ClassId} {A : Nat → Prop} {ls : Array Slot}
def wp_X6_slats_21 (Q1 : Int32 → (zSt × zSt × zSt × zSt × zSt × zSt) → Prop) (QX : String → (zSt × zSt × zSt × zSt × zSt × zSt) → Prop) (u0 : zSt) (u1 : zSt) (u2 : zSt) (u3 : zSt) (u4 : zSt) (u5 : zSt) : Prop :=
  QX "java/lang/IllegalArgumentException" (u0, u1, u2, u3, u4, u5)

set_option maxHeartbeats 4000000 in
set_option maxRecDepth 100000 in
theorem bk_X6_slats_21 {a : Nat → Nat → Nat} {Q1 : Int32 → (zSt × zSt × zSt × zSt × zSt × zSt) → Prop} {QX : String → (zSt × zSt × zSt × zSt × zSt × zSt) → Prop} {u0 : zSt} {u1 : zSt} {u2 : zSt} {u3 : zSt} {u4 : zSt} {u5 : zSt} (C : zCx p s m args c cX6_slats 3 RX6 wsX6_slats D cI cZ cJ A) (Y : zDy D A s.heap (k6 a cI cZ (u0, u1, u2, u3, u4, u5)) H locs) (hl : lv_has ls 3 []) (hret : ∀ {pc : Nat} {H : Heap} {locs : List Loc} {ls : Array Slot} {r : Int32} {u : zSt × zSt × zSt × zSt × zSt × zSt}, zDy D A s.heap ((fun u : zSt × zSt × zSt × zSt × zSt × zSt => k6 a cI cZ u) u) H locs → Q1 r u → decode cX6_slats pc = .ok (.ireturn, 1) → W p l e ({ frames := 6, cells := 1, slots := 6, locals := 90 } : Room) s m args below meth c H locs 0 0 Q (F0 m pc ls [.int r])) (hthr : ∀ {pc : Nat} {H : Heap} {locs : List Loc} {ls : Array Slot} {rest : List Value} {u : zSt × zSt × zSt × zSt × zSt × zSt} {E text : String} {ik is ic : Nat}, zDy D A s.heap ((fun u : zSt × zSt × zSt × zSt × zSt × zSt => k6 a cI cZ u) u) H locs → QX E u → zThr cX6_slats RX6 wsX6_slats E text ik is ic pc → ls.size = 3 → (rest.map fun v => v.category).sum ≤ 8 → W p l e ({ frames := 6, cells := 1, slots := 6, locals := 90 } : Room) s m args below meth c H locs 0 0 Q (F0 m pc ls rest)) (hv : wp_X6_slats_21 Q1 QX  u0 u1 u2 u3 u4 u5) : W p l e ({ frames := 6, cells := 1, slots := 6, locals := 90 } : Room) s m args below meth c H locs 0 0 Q (F0 m 21 ls []) := by
  unfold wp_X6_slats_21 at hv
  obtain ⟨hx, hb, hml, hown, hts, hK, hA⟩ := id C
  exact hthr Y hv th_X6_slats_21 hl.1 (Nat.le_of_ble_eq_true rfl)

def wp_X6_slats_0 (Q1 : Int32 → (zSt × zSt × zSt × zSt × zSt × zSt) → Prop) (QX : String → (zSt × zSt × zSt × zSt × zSt × zSt) → Prop) (p1 : Int32) (p2 : Int32) (u0 : zSt) (u1 : zSt) (u2 : zSt) (u3 : zSt) (u4 : zSt) (u5 : zSt) : Prop :=
  TX6_isWithin (fun (r_1 : Int32) (_ : Unit) => (r_1 = (0 : Int32) → wp_X6_slats_21 Q1 QX  u0 u1 u2 u3 u4 u5) ∧ (¬ r_1 = (0 : Int32) → TX6_isWithin (fun (r_2 : Int32) (_ : Unit) => (r_2 = (0 : Int32) → wp_X6_slats_21 Q1 QX  u0 u1 u2 u3 u4 u5) ∧ (¬ r_2 = (0 : Int32) → TX2_putSlats (fun (r_4 : Int32) (u2_3 : zSt) => Q1 r_4 (u0, u1, u2_3, u3, u4, u5)) p1 p2 u2)) p2 0 200 )) p1 0 9 

set_option maxHeartbeats 4000000 in
set_option maxRecDepth 100000 in
theorem bk_X6_slats_0 {a : Nat → Nat → Nat} {Q1 : Int32 → (zSt × zSt × zSt × zSt × zSt × zSt) → Prop} {QX : String → (zSt × zSt × zSt × zSt × zSt × zSt) → Prop} {p1 : Int32} {p2 : Int32} {u0 : zSt} {u1 : zSt} {u2 : zSt} {u3 : zSt} {u4 : zSt} {u5 : zSt} (C : zCx p s m args c cX6_slats 3 RX6 wsX6_slats D cI cZ cJ A) (Y : zDy D A s.heap (k6 a cI cZ (u0, u1, u2, u3, u4, u5)) H locs) (hl : lv_has ls 3 [(0, .ref (a 6 99)), (1, .int p1), (2, .int p2)]) (hret : ∀ {pc : Nat} {H : Heap} {locs : List Loc} {ls : Array Slot} {r : Int32} {u : zSt × zSt × zSt × zSt × zSt × zSt}, zDy D A s.heap ((fun u : zSt × zSt × zSt × zSt × zSt × zSt => k6 a cI cZ u) u) H locs → Q1 r u → decode cX6_slats pc = .ok (.ireturn, 1) → W p l e ({ frames := 6, cells := 1, slots := 6, locals := 90 } : Room) s m args below meth c H locs 0 0 Q (F0 m pc ls [.int r])) (hthr : ∀ {pc : Nat} {H : Heap} {locs : List Loc} {ls : Array Slot} {rest : List Value} {u : zSt × zSt × zSt × zSt × zSt × zSt} {E text : String} {ik is ic : Nat}, zDy D A s.heap ((fun u : zSt × zSt × zSt × zSt × zSt × zSt => k6 a cI cZ u) u) H locs → QX E u → zThr cX6_slats RX6 wsX6_slats E text ik is ic pc → ls.size = 3 → (rest.map fun v => v.category).sum ≤ 8 → W p l e ({ frames := 6, cells := 1, slots := 6, locals := 90 } : Room) s m args below meth c H locs 0 0 Q (F0 m pc ls rest)) (hv : wp_X6_slats_0 Q1 QX p1 p2 u0 u1 u2 u3 u4 u5) : W p l e ({ frames := 6, cells := 1, slots := 6, locals := 90 } : Room) s m args below meth c H locs 0 0 Q (F0 m 0 ls []) := by
  unfold wp_X6_slats_0 at hv
  obtain ⟨hx, hb, hml, hown, hts, hK, hA⟩ := id C
  refine lv_iload_n hx hb dX6_slats_0 rfl (lv_at hl 1 rfl) ?_
  refine lv_iconst (v := 0) hx hb dX6_slats_1 (by decide) ?_
  refine lv_bipush (v := 9) hx hb dX6_slats_2 (by decide) ?_
  refine z_callSi C Y (c_X6_isWithin l hv) (zFr.nil _) (va_cwS 3 hts gX6_slats_X6_isWithin rfl rfl rfl (by decide +kernel) ⟨(Nat.le_of_ble_eq_true rfl), (Nat.le_of_ble_eq_true rfl)⟩) rfl hl.1 rfl (Nat.le_of_ble_eq_true rfl) dX6_slats_4 ⟨Nat.zero_le _, Nat.zero_le _⟩ (fun r_1 _ H locs Y hv => ?_)
  refine lv_if_eq (tgt := 21) hx hb dX6_slats_7 (by decide) (fun hc => ?_) (fun hc => ?_)
  · have hv := hv.1 hc
    exact bk_X6_slats_21 C Y (lv_sub hl [] rfl) hret hthr hv
  · have hv := hv.2 hc
    refine lv_iload_n hx hb dX6_slats_10 rfl (lv_at hl 2 rfl) ?_
    refine lv_iconst (v := 0) hx hb dX6_slats_11 (by decide) ?_
    refine lv_sipush (v := 200) hx hb dX6_slats_12 (by decide) ?_
    refine z_callSi C Y (c_X6_isWithin l hv) (zFr.nil _) (va_cwS 3 hts gX6_slats_X6_isWithin rfl rfl rfl (by decide +kernel) ⟨(Nat.le_of_ble_eq_true rfl), (Nat.le_of_ble_eq_true rfl)⟩) rfl hl.1 rfl (Nat.le_of_ble_eq_true rfl) dX6_slats_15 ⟨Nat.zero_le _, Nat.zero_le _⟩ (fun r_2 _ H locs Y hv => ?_)
    refine lv_if_ne (tgt := 31) hx hb dX6_slats_18 (by decide) (fun hc => ?_) (fun hc => ?_)
    · have hv := hv.2 hc
      refine lv_aload_n hx hb dX6_slats_31 rfl (lv_at hl 0 rfl) ?_
      refine z_get C Y (Cn := RX6) (T := TX6) (N := 6) in_X6_slats_6 rfl (ge6_6 ..) 4 (by decide) fl_X6_slats_40 rfl dX6_slats_32 ?_
      refine lv_iload_n hx hb dX6_slats_35 rfl (lv_at hl 1 rfl) ?_
      refine lv_iload_n hx hb dX6_slats_36 rfl (lv_at hl 2 rfl) ?_
      refine z_callVi C Y (c_X2_putSlats l hv) (fr6_2 ..) (cwV 2 hts gX6_slats_X2_putSlats rfl rfl rfl (by decide +kernel) ⟨(Nat.le_of_ble_eq_true rfl), (Nat.le_of_ble_eq_true rfl)⟩) (ge2_2 ..) rfl rfl rfl hl.1 rfl (Nat.le_of_ble_eq_true rfl) dX6_slats_37 ⟨Nat.zero_le _, Nat.zero_le _⟩ (fun r_4 u2_3 H locs Y hv => ?_)
      exact hret Y hv dX6_slats_40
    · have hv := hv.1 hc
      exact bk_X6_slats_21 C Y (lv_sub hl [] rfl) hret hthr hv

end
abbrev TX6_slats := wp_X6_slats_0
set_option maxHeartbeats 4000000 in
set_option maxRecDepth 100000 in
theorem c_X6_slats (l : Launch) {D : va_G} {cI cZ cJ : ClassId} {a : Nat → Nat → Nat} (hlt : l.stackTraces = false) {Q1 : Int32 → (zSt × zSt × zSt × zSt × zSt × zSt) → Prop} {QX : String → (zSt × zSt × zSt × zSt × zSt × zSt) → Prop} {p1 : Int32} {p2 : Int32} {u0 : zSt} {u1 : zSt} {u2 : zSt} {u3 : zSt} {u4 : zSt} {u5 : zSt} (hv : wp_X6_slats_0 Q1 QX p1 p2 u0 u1 u2 u3 u4 u5) : zXI l yX6_slats wsX6_slats ({ frames := 6, cells := 1, slots := 6, locals := 90 } : Room) D cI cZ cJ [.ref (a 6 99), .int p1, .int p2] (k6 a cI cZ (u0, u1, u2, u3, u4, u5)) (fun u : zSt × zSt × zSt × zSt × zSt × zSt => k6 a cI cZ u) Q1 QX :=
  z_ofXI hlt ⟨Nat.le_of_ble_eq_true rfl, Nat.le_of_ble_eq_true rfl, Nat.le_of_ble_eq_true rfl, Nat.le_of_ble_eq_true rfl⟩ (by decide) rfl rfl (Nat.le_of_ble_eq_true rfl) (fun C Y hl hret hthr => bk_X6_slats_0 C Y hl hret hthr hv)


theorem in_X6_grade_2 : ∀ w ∈ wsX20, w ∈ wsX6_grade := by first | exact fun w h => List.mem_cons_of_mem _ (List.mem_append_right _ h) | exact fun w h => List.mem_cons_of_mem _ (List.mem_append_left _ (List.mem_append_right _ h)) | decide +kernel
theorem in_X6_grade_6 : ∀ w ∈ wsX60, w ∈ wsX6_grade := by first | exact fun w h => List.mem_cons_of_mem _ (List.mem_append_right _ h) | exact fun w h => List.mem_cons_of_mem _ (List.mem_append_left _ (List.mem_append_right _ h)) | decide +kernel
theorem fl_X6_grade_40 : Cond.fieldLink RX6 40 (TX6 4).1 (TX6 4).2.1 (TX6 4).2.2.1 ∈ wsX6_grade := by decide +kernel
theorem fl_X6_grade_205 : Cond.fieldLink RX6 205 (TX2 5).1 (TX2 5).2.1 (TX2 5).2.2.1 ∈ wsX6_grade := by decide +kernel
theorem th_X6_grade_32 : zThr cX6_grade RX6 wsX6_grade "java/lang/IllegalArgumentException" "a number is none" 59 200 63 32 := ⟨by decide +kernel, by decide +kernel, by decide +kernel, by decide +kernel, by decide +kernel, by decide +kernel, by decide +kernel, dX6_grade_32, dX6_grade_35, dX6_grade_36, dX6_grade_38, dX6_grade_41⟩
section
variable {p : Program} {l : Launch} {e : Env} {s : State} {m : MethodId} {args : Array Value} {below : List Frame} {meth : Method} {c : Code} {H : Heap} {locs : List Loc} {Q : State → Prop} {D : va_G} {cI cZ cJ : ClassId} {A : Nat → Prop} {ls : Array Slot}
def wp_X6_grade_32 (Q1 : Int32 → (zSt × zSt × zSt × zSt × zSt × zSt) → Prop) (QX : String → (zSt × zSt × zSt × zSt × zSt × zSt) → Prop) (u0 : zSt) (u1 : zSt) (u2 : zSt) (u3 : zSt) (u4 : zSt) (u5 : zSt) : Prop :=
  QX "java/lang/IllegalArgumentException" (u0, u1, u2, u3, u4, u5)

set_option maxHeartbeats 4000000 in
set_option maxRecDepth 100000 in
theorem bk_X6_grade_32 {a : Nat → Nat → Nat} {Q1 : Int32 → (zSt × zSt × zSt × zSt × zSt × zSt) → Prop} {QX : String → (zSt × zSt × zSt × zSt × zSt × zSt) → Prop} {u0 : zSt} {u1 : zSt} {u2 : zSt} {u3 : zSt} {u4 : zSt} {u5 : zSt} (C : zCx p s m args c cX6_grade 4 RX6 wsX6_grade D cI cZ cJ A) (Y : zDy D A s.heap (k6 a cI cZ (u0, u1, u2, u3, u4, u5)) H locs) (hl : lv_has ls 4 []) (hret : ∀ {pc : Nat} {H : Heap} {locs : List Loc} {ls : Array Slot} {r : Int32} {u : zSt × zSt × zSt × zSt × zSt × zSt}, zDy D A s.heap ((fun u : zSt × zSt × zSt × zSt × zSt × zSt => k6 a cI cZ u) u) H locs → Q1 r u → decode cX6_grade pc = .ok (.ireturn, 1) → W p l e ({ frames := 6, cells := 1, slots := 6, locals := 90 } : Room) s m args below meth c H locs 0 0 Q (F0 m pc ls [.int r])) (hthr : ∀ {pc : Nat} {H : Heap} {locs : List Loc} {ls : Array Slot} {rest : List Value} {u : zSt × zSt × zSt × zSt × zSt × zSt} {E text : String} {ik is ic : Nat}, zDy D A s.heap ((fun u : zSt × zSt × zSt × zSt × zSt × zSt => k6 a cI cZ u) u) H locs → QX E u → zThr cX6_grade RX6 wsX6_grade E text ik is ic pc → ls.size = 4 → (rest.map fun v => v.category).sum ≤ 8 → W p l e ({ frames := 6, cells := 1, slots := 6, locals := 90 } : Room) s m args below meth c H locs 0 0 Q (F0 m pc ls rest)) (hv : wp_X6_grade_32 Q1 QX  u0 u1 u2 u3 u4 u5) : W p l e ({ frames := 6, cells := 1, slots := 6, locals := 90 } : Room) s m args below meth c H locs 0 0 Q (F0 m 32 ls []) := by
  unfold wp_X6_grade_32 at hv
  obtain ⟨hx, hb, hml, hown, hts, hK, hA⟩ := id C
  exact hthr Y hv th_X6_grade_32 hl.1 (Nat.le_of_ble_eq_true rfl)

def wp_X6_grade_0 (Q1 : Int32 → (zSt × zSt × zSt × zSt × zSt × zSt) → Prop) (QX : String → (zSt × zSt × zSt × zSt × zSt × zSt) → Prop) (p1 : Int32) (p2 : Int32) (p3 : Int32) (u0 : zSt) (u1 : zSt) (u2 : zSt) (u3 : zSt) (u4 : zSt) (u5 : zSt) : Prop :=
  TX6_isWithin (fun (r_1 : Int32) (_ : Unit) => (r_1 = (0 : Int32) → wp_X6_grade_32 Q1 QX  u0 u1 u2 u3 u4 u5) ∧ (¬ r_1 = (0 : Int32) → TX6_isWithin (fun (r_2 : Int32) (_ : Unit) => (r_2 = (0 : Int32) → wp_X6_grade_32 Q1 QX  u0 u1 u2 u3 u4 u5) ∧ (¬ r_2 = (0 : Int32) → TX6_isWithin (fun (r_3 : Int32) (_ : Unit) => (r_3 = (0 : Int32) → wp_X6_grade_32 Q1 QX  u0 u1 u2 u3 u4 u5) ∧ (¬ r_3 = (0 : Int32) → ((u2.1 5) < (6 : Int32) → TX2_add (fun (r_5 : Int32) (u2_4 : zSt) => Q1 r_5 (u0, u1, u2_4, u3, u4, u5)) p1 p2 p3 u2) ∧ (¬ (u2.1 5) < (6 : Int32) → Q1 (-1) (u0, u1, u2, u3, u4, u5)))) p3 0 500 )) p2 1 1000 )) p1 0 9 

set_option maxHeartbeats 4000000 in
set_option maxRecDepth 100000 in
theorem bk_X6_grade_0 {a : Nat → Nat → Nat} {Q1 : Int32 → (zSt × zSt × zSt × zSt × zSt × zSt) → Prop} {QX : String → (zSt × zSt × zSt × zSt × zSt × zSt) → Prop} {p1 : Int32} {p2 : Int32} {p3 : Int32} {u0 : zSt} {u1 : zSt} {u2 : zSt} {u3 : zSt} {u4 : zSt} {u5 : zSt} (C : zCx p s m args c cX6_grade 4 RX6 wsX6_grade D cI cZ cJ A) (Y : zDy D A s.heap (k6 a cI cZ (u0, u1, u2, u3, u4, u5)) H locs) (hl : lv_has ls 4 [(0, .ref (a 6 99)), (1, .int p1), (2, .int p2), (3, .int p3)]) (hret : ∀ {pc : Nat} {H : Heap} {locs : List Loc} {ls : Array Slot} {r : Int32} {u : zSt × zSt × zSt × zSt × zSt × zSt}, zDy D A s.heap ((fun u : zSt × zSt × zSt × zSt × zSt × zSt => k6 a cI cZ u) u) H locs → Q1 r u → decode cX6_grade pc = .ok (.ireturn, 1) → W p l e ({ frames := 6, cells := 1, slots := 6, locals := 90 } : Room) s m args below meth c H locs 0 0 Q (F0 m pc ls [.int r])) (hthr : ∀ {pc : Nat} {H : Heap} {locs : List Loc} {ls : Array Slot} {rest : List Value} {u : zSt × zSt × zSt × zSt × zSt × zSt} {E text : String} {ik is ic : Nat}, zDy D A s.heap ((fun u : zSt × zSt × zSt × zSt × zSt × zSt => k6 a cI cZ u) u) H locs → QX E u → zThr cX6_grade RX6 wsX6_grade E text ik is ic pc → ls.size = 4 → (rest.map fun v => v.category).sum ≤ 8 → W p l e ({ frames := 6, cells := 1, slots := 6, locals := 90 } : Room) s m args below meth c H locs 0 0 Q (F0 m pc ls rest)) (hv : wp_X6_grade_0 Q1 QX p1 p2 p3 u0 u1 u2 u3 u4 u5) : W p l e ({ frames := 6, cells := 1, slots := 6, locals := 90 } : Room) s m args below meth c H locs 0 0 Q (F0 m 0 ls []) := by
  unfold wp_X6_grade_0 at hv
  obtain ⟨hx, hb, hml, hown, hts, hK, hA⟩ := id C
  refine lv_iload_n hx hb dX6_grade_0 rfl (lv_at hl 1 rfl) ?_
  refine lv_iconst (v := 0) hx hb dX6_grade_1 (by decide) ?_
  refine lv_bipush (v := 9) hx hb dX6_grade_2 (by decide) ?_
  refine z_callSi C Y (c_X6_isWithin l hv) (zFr.nil _) (va_cwS 3 hts gX6_grade_X6_isWithin rfl rfl rfl (by decide +kernel) ⟨(Nat.le_of_ble_eq_true rfl), (Nat.le_of_ble_eq_true rfl)⟩) rfl hl.1 rfl (Nat.le_of_ble_eq_true rfl) dX6_grade_4 ⟨Nat.zero_le _, Nat.zero_le _⟩ (fun r_1 _ H locs Y hv => ?_)
  refine lv_if_eq (tgt := 32) hx hb dX6_grade_7 (by decide) (fun hc => ?_) (fun hc => ?_)
  · have hv := hv.1 hc
    exact bk_X6_grade_32 C Y (lv_sub hl [] rfl) hret hthr hv
  · have hv := hv.2 hc
    refine lv_iload_n hx hb dX6_grade_10 rfl (lv_at hl 2 rfl) ?_
    refine lv_iconst (v := 1) hx hb dX6_grade_11 (by decide) ?_
    refine lv_sipush (v := 1000) hx hb dX6_grade_12 (by decide) ?_
    refine z_callSi C Y (c_X6_isWithin l hv) (zFr.nil _) (va_cwS 3 hts gX6_grade_X6_isWithin rfl rfl rfl (by decide +kernel) ⟨(Nat.le_of_ble_eq_true rfl), (Nat.le_of_ble_eq_true rfl)⟩) rfl hl.1 rfl (Nat.le_of_ble_eq_true rfl) dX6_grade_15 ⟨Nat.zero_le _, Nat.zero_le _⟩ (fun r_2 _ H locs Y hv => ?_)
    refine lv_if_eq (tgt := 32) hx hb dX6_grade_18 (by decide) (fun hc => ?_) (fun hc => ?_)
    · have hv := hv.1 hc
      exact bk_X6_grade_32 C Y (lv_sub hl [] rfl) hret hthr hv
    · have hv := hv.2 hc
      refine lv_iload_n hx hb dX6_grade_21 rfl (lv_at hl 3 rfl) ?_
      refine lv_iconst (v := 0) hx hb dX6_grade_22 (by decide) ?_
      refine lv_sipush (v := 500) hx hb dX6_grade_23 (by decide) ?_
      refine z_callSi C Y (c_X6_isWithin l hv) (zFr.nil _) (va_cwS 3 hts gX6_grade_X6_isWithin rfl rfl rfl (by decide +kernel) ⟨(Nat.le_of_ble_eq_true rfl), (Nat.le_of_ble_eq_true rfl)⟩) rfl hl.1 rfl (Nat.le_of_ble_eq_true rfl) dX6_grade_26 ⟨Nat.zero_le _, Nat.zero_le _⟩ (fun r_3 _ H locs Y hv => ?_)
      refine lv_if_ne (tgt := 42) hx hb dX6_grade_29 (by decide) (fun hc => ?_) (fun hc => ?_)
      · have hv := hv.2 hc
        refine lv_aload_n hx hb dX6_grade_42 rfl (lv_at hl 0 rfl) ?_
        refine z_get C Y (Cn := RX6) (T := TX6) (N := 6) in_X6_grade_6 rfl (ge6_6 ..) 4 (by decide) fl_X6_grade_40 rfl dX6_grade_43 ?_
        refine z_get C Y (Cn := RX2) (T := TX2) (N := 7) in_X6_grade_2 rfl (ge6_2 ..) 5 (by decide) fl_X6_grade_205 rfl dX6_grade_46 ?_
        refine lv_bipush (v := 6) hx hb dX6_grade_49 (by decide) ?_
        refine lv_icmp_lt (tgt := 58) hx hb dX6_grade_51 (by decide) (fun hc => ?_) (fun hc => ?_)
        · have hv := hv.1 hc
          refine lv_aload_n hx hb dX6_grade_58 rfl (lv_at hl 0 rfl) ?_
          refine z_get C Y (Cn := RX6) (T := TX6) (N := 6) in_X6_grade_6 rfl (ge6_6 ..) 4 (by decide) fl_X6_grade_40 rfl dX6_grade_59 ?_
          refine lv_iload_n hx hb dX6_grade_62 rfl (lv_at hl 1 rfl) ?_
          refine lv_iload_n hx hb dX6_grade_63 rfl (lv_at hl 2 rfl) ?_
          refine lv_iload_n hx hb dX6_grade_64 rfl (lv_at hl 3 rfl) ?_
          refine z_callVi C Y (c_X2_add l hv) (fr6_2 ..) (cwV 3 hts gX6_grade_X2_add rfl rfl rfl (by decide +kernel) ⟨(Nat.le_of_ble_eq_true rfl), (Nat.le_of_ble_eq_true rfl)⟩) (ge2_2 ..) rfl rfl rfl hl.1 rfl (Nat.le_of_ble_eq_true rfl) dX6_grade_65 ⟨Nat.zero_le _, Nat.zero_le _⟩ (fun r_5 u2_4 H locs Y hv => ?_)
          exact hret Y hv dX6_grade_68
        · have hv := hv.2 hc
          refine lv_iconst (v := (-1)) hx hb dX6_grade_54 (by decide) ?_
          refine lv_goto (tgt := 68) hx hb dX6_grade_55 (by decide) ?_
          exact hret Y hv dX6_grade_68
      · have hv := hv.1 hc
        exact bk_X6_grade_32 C Y (lv_sub hl [] rfl) hret hthr hv

end
abbrev TX6_grade := wp_X6_grade_0
set_option maxHeartbeats 4000000 in
set_option maxRecDepth 100000 in
theorem c_X6_grade (l : Launch) {D : va_G} {cI cZ cJ : ClassId} {a : Nat → Nat → Nat} (hlt : l.stackTraces = false) {Q1 : Int32 → (zSt × zSt × zSt × zSt × zSt × zSt) → Prop} {QX : String → (zSt × zSt × zSt × zSt × zSt × zSt) → Prop} {p1 : Int32} {p2 : Int32} {p3 : Int32} {u0 : zSt} {u1 : zSt} {u2 : zSt} {u3 : zSt} {u4 : zSt} {u5 : zSt} (hv : wp_X6_grade_0 Q1 QX p1 p2 p3 u0 u1 u2 u3 u4 u5) : zXI l yX6_grade wsX6_grade ({ frames := 6, cells := 1, slots := 6, locals := 90 } : Room) D cI cZ cJ [.ref (a 6 99), .int p1, .int p2, .int p3] (k6 a cI cZ (u0, u1, u2, u3, u4, u5)) (fun u : zSt × zSt × zSt × zSt × zSt × zSt => k6 a cI cZ u) Q1 QX :=
  z_ofXI hlt ⟨Nat.le_of_ble_eq_true rfl, Nat.le_of_ble_eq_true rfl, Nat.le_of_ble_eq_true rfl, Nat.le_of_ble_eq_true rfl⟩ (by decide) rfl rfl (Nat.le_of_ble_eq_true rfl) (fun C Y hl hret hthr => bk_X6_grade_0 C Y hl hret hthr hv)


theorem in_X6_ungrade_2 : ∀ w ∈ wsX20, w ∈ wsX6_ungrade := by first | exact fun w h => List.mem_cons_of_mem _ (List.mem_append_right _ h) | exact fun w h => List.mem_cons_of_mem _ (List.mem_append_left _ (List.mem_append_right _ h)) | decide +kernel
theorem in_X6_ungrade_6 : ∀ w ∈ wsX60, w ∈ wsX6_ungrade := by first | exact fun w h => List.mem_cons_of_mem _ (List.mem_append_right _ h) | exact fun w h => List.mem_cons_of_mem _ (List.mem_append_left _ (List.mem_append_right _ h)) | decide +kernel
theorem fl_X6_ungrade_40 : Cond.fieldLink RX6 40 (TX6 4).1 (TX6 4).2.1 (TX6 4).2.2.1 ∈ wsX6_ungrade := by decide +kernel
theorem fl_X6_ungrade_205 : Cond.fieldLink RX6 205 (TX2 5).1 (TX2 5).2.1 (TX2 5).2.2.1 ∈ wsX6_ungrade := by decide +kernel
section
variable {p : Program} {l : Launch} {e : Env} {s : State} {m : MethodId} {args : Array Value} {below : List Frame} {meth : Method} {c : Code} {H : Heap} {locs : List Loc} {Q : State → Prop} {D : va_G} {cI cZ cJ : ClassId} {A : Nat → Prop} {ls : Array Slot}
def wp_X6_ungrade_0 (Q1 : Int32 → (zSt × zSt × zSt × zSt × zSt × zSt) → Prop) (u0 : zSt) (u1 : zSt) (u2 : zSt) (u3 : zSt) (u4 : zSt) (u5 : zSt) : Prop :=
  ∀ x1_1 : Int32, x1_1 = (u2.1 5) → ∀ u2_2 : zSt, u2_2 = zI u2 5 0 → Q1 x1_1 (u0, u1, u2_2, u3, u4, u5)

set_option maxHeartbeats 4000000 in
set_option maxRecDepth 100000 in
theorem bk_X6_ungrade_0 {a : Nat → Nat → Nat} {Q1 : Int32 → (zSt × zSt × zSt × zSt × zSt × zSt) → Prop} {u0 : zSt} {u1 : zSt} {u2 : zSt} {u3 : zSt} {u4 : zSt} {u5 : zSt} (C : zCx p s m args c cX6_ungrade 2 RX6 wsX6_ungrade D cI cZ cJ A) (Y : zDy D A s.heap (k6 a cI cZ (u0, u1, u2, u3, u4, u5)) H locs) (hl : lv_has ls 2 [(0, .ref (a 6 99))]) (hret : ∀ {pc : Nat} {H : Heap} {locs : List Loc} {ls : Array Slot} {r : Int32} {u : zSt × zSt × zSt × zSt × zSt × zSt}, zDy D A s.heap ((fun u : zSt × zSt × zSt × zSt × zSt × zSt => k6 a cI cZ u) u) H locs → Q1 r u → decode cX6_ungrade pc = .ok (.ireturn, 1) → W p l e ({ frames := 0, cells := 0, slots := 0, locals := 0 } : Room) s m args below meth c H locs 0 0 Q (F0 m pc ls [.int r])) (hv : wp_X6_ungrade_0 Q1  u0 u1 u2 u3 u4 u5) : W p l e ({ frames := 0, cells := 0, slots := 0, locals := 0 } : Room) s m args below meth c H locs 0 0 Q (F0 m 0 ls []) := by
  unfold wp_X6_ungrade_0 at hv
  obtain ⟨hx, hb, hml, hown, hts, hK, hA⟩ := id C
  refine lv_aload_n hx hb dX6_ungrade_0 rfl (lv_at hl 0 rfl) ?_
  refine z_get C Y (Cn := RX6) (T := TX6) (N := 6) in_X6_ungrade_6 rfl (ge6_6 ..) 4 (by decide) fl_X6_ungrade_40 rfl dX6_ungrade_1 ?_
  refine z_get C Y (Cn := RX2) (T := TX2) (N := 7) in_X6_ungrade_2 rfl (ge6_2 ..) 5 (by decide) fl_X6_ungrade_205 rfl dX6_ungrade_4 ?_
  refine z_topi hv (fun x1_1 ex1_1 hv => ?_)
  refine lv_istore_n (lv' := [(1, .int x1_1), (0, .ref (a 6 99))]) hx hb dX6_ungrade_7 rfl hl (by decide) rfl (fun ls hl => ?_)
  refine lv_aload_n hx hb dX6_ungrade_8 rfl (lv_at hl 1 rfl) ?_
  refine z_get C Y (Cn := RX6) (T := TX6) (N := 6) in_X6_ungrade_6 rfl (ge6_6 ..) 4 (by decide) fl_X6_ungrade_40 rfl dX6_ungrade_9 ?_
  refine lv_iconst (v := 0) hx hb dX6_ungrade_12 (by decide) ?_
  refine z_putI C Y (Cn := RX2) (T := TX2) (N := 7) in_X6_ungrade_2 rfl tyX2 tyX2_ok nmX2 (ge6_2 ..) 5 (by decide) fl_X6_ungrade_205 rfl (by decide +kernel) (Nat.le_of_ble_eq_true rfl) (si6_2_5 ..) dX6_ungrade_13 (fun H locs Y => ?_)
  obtain ⟨u2_2, eu2_2, Y, hv⟩ := z_nm (kf := fun z => (k6 a cI cZ (u0, u1, z, u3, u4, u5))) Y hv
  refine lv_iload_n hx hb dX6_ungrade_16 rfl (lv_at hl 0 rfl) ?_
  exact hret Y hv dX6_ungrade_17

end
abbrev TX6_ungrade := wp_X6_ungrade_0
set_option maxHeartbeats 4000000 in
set_option maxRecDepth 100000 in
theorem c_X6_ungrade (l : Launch) {D : va_G} {cI cZ cJ : ClassId} {a : Nat → Nat → Nat} {Q1 : Int32 → (zSt × zSt × zSt × zSt × zSt × zSt) → Prop} {u0 : zSt} {u1 : zSt} {u2 : zSt} {u3 : zSt} {u4 : zSt} {u5 : zSt} (hv : wp_X6_ungrade_0 Q1  u0 u1 u2 u3 u4 u5) : zMI l yX6_ungrade wsX6_ungrade ({ frames := 0, cells := 0, slots := 0, locals := 0 } : Room) D cI cZ cJ [.ref (a 6 99)] (k6 a cI cZ (u0, u1, u2, u3, u4, u5)) (fun u : zSt × zSt × zSt × zSt × zSt × zSt => k6 a cI cZ u) Q1 :=
  z_ofI (by decide) rfl rfl (Nat.le_of_ble_eq_true rfl) (fun C Y hl hret => bk_X6_ungrade_0 C Y hl hret hv)


theorem in_X6_most_6 : ∀ w ∈ wsX60, w ∈ wsX6_most := by first | exact fun w h => List.mem_cons_of_mem _ (List.mem_append_right _ h) | exact fun w h => List.mem_cons_of_mem _ (List.mem_append_left _ (List.mem_append_right _ h)) | decide +kernel
theorem fl_X6_most_40 : Cond.fieldLink RX6 40 (TX6 4).1 (TX6 4).2.1 (TX6 4).2.2.1 ∈ wsX6_most := by decide +kernel
section
variable {p : Program} {l : Launch} {e : Env} {s : State} {m : MethodId} {args : Array Value} {below : List Frame} {meth : Method} {c : Code} {H : Heap} {locs : List Loc} {Q : State → Prop} {D : va_G} {cI cZ cJ : ClassId} {A : Nat → Prop} {ls : Array Slot}
def wp_X6_most_0 (Q1 : Int32 → (zSt × zSt × zSt × zSt × zSt × zSt) → Prop) (u0 : zSt) (u1 : zSt) (u2 : zSt) (u3 : zSt) (u4 : zSt) (u5 : zSt) : Prop :=
  TX2_greatestWorth (fun (r_2 : Int32) (u2_1 : zSt) => Q1 r_2 (u0, u1, u2_1, u3, u4, u5))  u2

set_option maxHeartbeats 4000000 in
set_option maxRecDepth 100000 in
theorem bk_X6_most_0 {a : Nat → Nat → Nat} {Q1 : Int32 → (zSt × zSt × zSt × zSt × zSt × zSt) → Prop} {u0 : zSt} {u1 : zSt} {u2 : zSt} {u3 : zSt} {u4 : zSt} {u5 : zSt} (C : zCx p s m args c cX6_most 1 RX6 wsX6_most D cI cZ cJ A) (Y : zDy D A s.heap (k6 a cI cZ (u0, u1, u2, u3, u4, u5)) H locs) (hl : lv_has ls 1 [(0, .ref (a 6 99))]) (hret : ∀ {pc : Nat} {H : Heap} {locs : List Loc} {ls : Array Slot} {r : Int32} {u : zSt × zSt × zSt × zSt × zSt × zSt}, zDy D A s.heap ((fun u : zSt × zSt × zSt × zSt × zSt × zSt => k6 a cI cZ u) u) H locs → Q1 r u → decode cX6_most pc = .ok (.ireturn, 1) → W p l e ({ frames := 3, cells := 0, slots := 0, locals := 70 } : Room) s m args below meth c H locs 0 0 Q (F0 m pc ls [.int r])) (hv : wp_X6_most_0 Q1  u0 u1 u2 u3 u4 u5) : W p l e ({ frames := 3, cells := 0, slots := 0, locals := 70 } : Room) s m args below meth c H locs 0 0 Q (F0 m 0 ls []) := by
  unfold wp_X6_most_0 at hv
  obtain ⟨hx, hb, hml, hown, hts, hK, hA⟩ := id C
  refine lv_aload_n hx hb dX6_most_0 rfl (lv_at hl 0 rfl) ?_
  refine z_get C Y (Cn := RX6) (T := TX6) (N := 6) in_X6_most_6 rfl (ge6_6 ..) 4 (by decide) fl_X6_most_40 rfl dX6_most_1 ?_
  refine z_callVi C Y (c_X2_greatestWorth l hv) (fr6_2 ..) (cwV 0 hts gX6_most_X2_greatestWorth rfl rfl rfl (by decide +kernel) ⟨(Nat.le_of_ble_eq_true rfl), (Nat.le_of_ble_eq_true rfl)⟩) (ge2_2 ..) rfl rfl rfl hl.1 rfl (Nat.le_of_ble_eq_true rfl) dX6_most_4 ⟨Nat.zero_le _, Nat.zero_le _⟩ (fun r_2 u2_1 H locs Y hv => ?_)
  exact hret Y hv dX6_most_7

end
abbrev TX6_most := wp_X6_most_0
set_option maxHeartbeats 4000000 in
set_option maxRecDepth 100000 in
theorem c_X6_most (l : Launch) {D : va_G} {cI cZ cJ : ClassId} {a : Nat → Nat → Nat} {Q1 : Int32 → (zSt × zSt × zSt × zSt × zSt × zSt) → Prop} {u0 : zSt} {u1 : zSt} {u2 : zSt} {u3 : zSt} {u4 : zSt} {u5 : zSt} (hv : wp_X6_most_0 Q1  u0 u1 u2 u3 u4 u5) : zMI l yX6_most wsX6_most ({ frames := 3, cells := 0, slots := 0, locals := 70 } : Room) D cI cZ cJ [.ref (a 6 99)] (k6 a cI cZ (u0, u1, u2, u3, u4, u5)) (fun u : zSt × zSt × zSt × zSt × zSt × zSt => k6 a cI cZ u) Q1 :=
  z_ofI (by decide) rfl rfl (Nat.le_of_ble_eq_true rfl) (fun C Y hl hret => bk_X6_most_0 C Y hl hret hv)


theorem in_X6_change_4 : ∀ w ∈ wsX40, w ∈ wsX6_change := by first | exact fun w h => List.mem_cons_of_mem _ (List.mem_append_right _ h) | exact fun w h => List.mem_cons_of_mem _ (List.mem_append_left _ (List.mem_append_right _ h)) | decide +kernel
theorem in_X6_change_6 : ∀ w ∈ wsX60, w ∈ wsX6_change := by first | exact fun w h => List.mem_cons_of_mem _ (List.mem_append_right _ h) | exact fun w h => List.mem_cons_of_mem _ (List.mem_append_left _ (List.mem_append_right _ h)) | decide +kernel
theorem fl_X6_change_47 : Cond.fieldLink RX6 47 (TX6 5).1 (TX6 5).2.1 (TX6 5).2.2.1 ∈ wsX6_change := by decide +kernel
theorem fl_X6_change_217 : Cond.fieldLink RX6 217 (TX4 0).1 (TX4 0).2.1 (TX4 0).2.2.1 ∈ wsX6_change := by decide +kernel
theorem th_X6_change_18 : zThr cX6_change RX6 wsX6_change "java/lang/IndexOutOfBoundsException" "no such colour" 82 213 86 18 := ⟨by decide +kernel, by decide +kernel, by decide +kernel, by decide +kernel, by decide +kernel, by decide +kernel, by decide +kernel, dX6_change_18, dX6_change_21, dX6_change_22, dX6_change_24, dX6_change_27⟩
theorem th_X6_change_44 : zThr cX6_change RX6 wsX6_change "java/lang/IllegalArgumentException" "the cost is none, or the colours are one" 59 215 63 44 := ⟨by decide +kernel, by decide +kernel, by decide +kernel, by decide +kernel, by decide +kernel, by decide +kernel, by decide +kernel, dX6_change_44, dX6_change_47, dX6_change_48, dX6_change_50, dX6_change_53⟩
section
variable {p : Program} {l : Launch} {e : Env} {s : State} {m : MethodId} {args : Array Value} {below : List Frame} {meth : Method} {c : Code} {H : Heap} {locs : List Loc} {Q : State → Prop} {D : va_G} {cI cZ cJ : ClassId} {A : Nat → Prop} {ls : Array Slot}
def wp_X6_change_18 (Q1 : (zSt × zSt × zSt × zSt × zSt × zSt) → Prop) (QX : String → (zSt × zSt × zSt × zSt × zSt × zSt) → Prop) (u0 : zSt) (u1 : zSt) (u2 : zSt) (u3 : zSt) (u4 : zSt) (u5 : zSt) : Prop :=
  QX "java/lang/IndexOutOfBoundsException" (u0, u1, u2, u3, u4, u5)

set_option maxHeartbeats 4000000 in
set_option maxRecDepth 100000 in
theorem bk_X6_change_18 {a : Nat → Nat → Nat} {Q1 : (zSt × zSt × zSt × zSt × zSt × zSt) → Prop} {QX : String → (zSt × zSt × zSt × zSt × zSt × zSt) → Prop} {u0 : zSt} {u1 : zSt} {u2 : zSt} {u3 : zSt} {u4 : zSt} {u5 : zSt} (C : zCx p s m args c cX6_change 4 RX6 wsX6_change D cI cZ cJ A) (Y : zDy D A s.heap (k6 a cI cZ (u0, u1, u2, u3, u4, u5)) H locs) (hl : lv_has ls 4 []) (hret : ∀ {pc : Nat} {H : Heap} {locs : List Loc} {ls : Array Slot} {u : zSt × zSt × zSt × zSt × zSt × zSt}, zDy D A s.heap ((fun u : zSt × zSt × zSt × zSt × zSt × zSt => k6 a cI cZ u) u) H locs → Q1 u → decode cX6_change pc = .ok (.return_, 1) → W p l e ({ frames := 6, cells := 1, slots := 6, locals := 90 } : Room) s m args below meth c H locs 0 0 Q (F0 m pc ls [])) (hthr : ∀ {pc : Nat} {H : Heap} {locs : List Loc} {ls : Array Slot} {rest : List Value} {u : zSt × zSt × zSt × zSt × zSt × zSt} {E text : String} {ik is ic : Nat}, zDy D A s.heap ((fun u : zSt × zSt × zSt × zSt × zSt × zSt => k6 a cI cZ u) u) H locs → QX E u → zThr cX6_change RX6 wsX6_change E text ik is ic pc → ls.size = 4 → (rest.map fun v => v.category).sum ≤ 8 → W p l e ({ frames := 6, cells := 1, slots := 6, locals := 90 } : Room) s m args below meth c H locs 0 0 Q (F0 m pc ls rest)) (hv : wp_X6_change_18 Q1 QX  u0 u1 u2 u3 u4 u5) : W p l e ({ frames := 6, cells := 1, slots := 6, locals := 90 } : Room) s m args below meth c H locs 0 0 Q (F0 m 18 ls []) := by
  unfold wp_X6_change_18 at hv
  obtain ⟨hx, hb, hml, hown, hts, hK, hA⟩ := id C
  exact hthr Y hv th_X6_change_18 hl.1 (Nat.le_of_ble_eq_true rfl)

def wp_X6_change_44 (Q1 : (zSt × zSt × zSt × zSt × zSt × zSt) → Prop) (QX : String → (zSt × zSt × zSt × zSt × zSt × zSt) → Prop) (u0 : zSt) (u1 : zSt) (u2 : zSt) (u3 : zSt) (u4 : zSt) (u5 : zSt) : Prop :=
  QX "java/lang/IllegalArgumentException" (u0, u1, u2, u3, u4, u5)

set_option maxHeartbeats 4000000 in
set_option maxRecDepth 100000 in
theorem bk_X6_change_44 {a : Nat → Nat → Nat} {Q1 : (zSt × zSt × zSt × zSt × zSt × zSt) → Prop} {QX : String → (zSt × zSt × zSt × zSt × zSt × zSt) → Prop} {u0 : zSt} {u1 : zSt} {u2 : zSt} {u3 : zSt} {u4 : zSt} {u5 : zSt} (C : zCx p s m args c cX6_change 4 RX6 wsX6_change D cI cZ cJ A) (Y : zDy D A s.heap (k6 a cI cZ (u0, u1, u2, u3, u4, u5)) H locs) (hl : lv_has ls 4 []) (hret : ∀ {pc : Nat} {H : Heap} {locs : List Loc} {ls : Array Slot} {u : zSt × zSt × zSt × zSt × zSt × zSt}, zDy D A s.heap ((fun u : zSt × zSt × zSt × zSt × zSt × zSt => k6 a cI cZ u) u) H locs → Q1 u → decode cX6_change pc = .ok (.return_, 1) → W p l e ({ frames := 6, cells := 1, slots := 6, locals := 90 } : Room) s m args below meth c H locs 0 0 Q (F0 m pc ls [])) (hthr : ∀ {pc : Nat} {H : Heap} {locs : List Loc} {ls : Array Slot} {rest : List Value} {u : zSt × zSt × zSt × zSt × zSt × zSt} {E text : String} {ik is ic : Nat}, zDy D A s.heap ((fun u : zSt × zSt × zSt × zSt × zSt × zSt => k6 a cI cZ u) u) H locs → QX E u → zThr cX6_change RX6 wsX6_change E text ik is ic pc → ls.size = 4 → (rest.map fun v => v.category).sum ≤ 8 → W p l e ({ frames := 6, cells := 1, slots := 6, locals := 90 } : Room) s m args below meth c H locs 0 0 Q (F0 m pc ls rest)) (hv : wp_X6_change_44 Q1 QX  u0 u1 u2 u3 u4 u5) : W p l e ({ frames := 6, cells := 1, slots := 6, locals := 90 } : Room) s m args below meth c H locs 0 0 Q (F0 m 44 ls []) := by
  unfold wp_X6_change_44 at hv
  obtain ⟨hx, hb, hml, hown, hts, hK, hA⟩ := id C
  exact hthr Y hv th_X6_change_44 hl.1 (Nat.le_of_ble_eq_true rfl)

def wp_X6_change_0 (Q1 : (zSt × zSt × zSt × zSt × zSt × zSt) → Prop) (QX : String → (zSt × zSt × zSt × zSt × zSt × zSt) → Prop) (p1 : Int32) (p2 : Int32) (p3 : Int32) (u0 : zSt) (u1 : zSt) (u2 : zSt) (u3 : zSt) (u4 : zSt) (u5 : zSt) : Prop :=
  TX6_isNumberOf (fun (r_1 : Int32) (_ : Unit) => (r_1 = (0 : Int32) → wp_X6_change_18 Q1 QX  u0 u1 u2 u3 u4 u5) ∧ (¬ r_1 = (0 : Int32) → TX6_isNumberOf (fun (r_2 : Int32) (_ : Unit) => (r_2 = (0 : Int32) → wp_X6_change_18 Q1 QX  u0 u1 u2 u3 u4 u5) ∧ (¬ r_2 = (0 : Int32) → TX6_isWithin (fun (r_3 : Int32) (_ : Unit) => (r_3 = (0 : Int32) → wp_X6_change_44 Q1 QX  u0 u1 u2 u3 u4 u5) ∧ (¬ r_3 = (0 : Int32) → (p1 = p2 → wp_X6_change_44 Q1 QX  u0 u1 u2 u3 u4 u5) ∧ (¬ p1 = p2 → vp_in ((p1 * 6) + p2) 42 ∧ (∀ u4_4 : zSt, u4_4 = zA u4 0 (upd (u4.2 0) ((p1 * 6) + p2).toNatClampNeg p3) → Q1 (u0, u1, u2, u3, u4_4, u5))))) p3 0 1000 )) p2 6 )) p1 6 

set_option maxHeartbeats 4000000 in
set_option maxRecDepth 100000 in
theorem bk_X6_change_0 {a : Nat → Nat → Nat} {Q1 : (zSt × zSt × zSt × zSt × zSt × zSt) → Prop} {QX : String → (zSt × zSt × zSt × zSt × zSt × zSt) → Prop} {p1 : Int32} {p2 : Int32} {p3 : Int32} {u0 : zSt} {u1 : zSt} {u2 : zSt} {u3 : zSt} {u4 : zSt} {u5 : zSt} (C : zCx p s m args c cX6_change 4 RX6 wsX6_change D cI cZ cJ A) (Y : zDy D A s.heap (k6 a cI cZ (u0, u1, u2, u3, u4, u5)) H locs) (hl : lv_has ls 4 [(0, .ref (a 6 99)), (1, .int p1), (2, .int p2), (3, .int p3)]) (hret : ∀ {pc : Nat} {H : Heap} {locs : List Loc} {ls : Array Slot} {u : zSt × zSt × zSt × zSt × zSt × zSt}, zDy D A s.heap ((fun u : zSt × zSt × zSt × zSt × zSt × zSt => k6 a cI cZ u) u) H locs → Q1 u → decode cX6_change pc = .ok (.return_, 1) → W p l e ({ frames := 6, cells := 1, slots := 6, locals := 90 } : Room) s m args below meth c H locs 0 0 Q (F0 m pc ls [])) (hthr : ∀ {pc : Nat} {H : Heap} {locs : List Loc} {ls : Array Slot} {rest : List Value} {u : zSt × zSt × zSt × zSt × zSt × zSt} {E text : String} {ik is ic : Nat}, zDy D A s.heap ((fun u : zSt × zSt × zSt × zSt × zSt × zSt => k6 a cI cZ u) u) H locs → QX E u → zThr cX6_change RX6 wsX6_change E text ik is ic pc → ls.size = 4 → (rest.map fun v => v.category).sum ≤ 8 → W p l e ({ frames := 6, cells := 1, slots := 6, locals := 90 } : Room) s m args below meth c H locs 0 0 Q (F0 m pc ls rest)) (hv : wp_X6_change_0 Q1 QX p1 p2 p3 u0 u1 u2 u3 u4 u5) : W p l e ({ frames := 6, cells := 1, slots := 6, locals := 90 } : Room) s m args below meth c H locs 0 0 Q (F0 m 0 ls []) := by
  unfold wp_X6_change_0 at hv
  obtain ⟨hx, hb, hml, hown, hts, hK, hA⟩ := id C
  refine lv_iload_n hx hb dX6_change_0 rfl (lv_at hl 1 rfl) ?_
  refine lv_bipush (v := 6) hx hb dX6_change_1 (by decide) ?_
  refine z_callSi C Y (c_X6_isNumberOf l hv) (zFr.nil _) (va_cwS 2 hts gX6_change_X6_isNumberOf rfl rfl rfl (by decide +kernel) ⟨(Nat.le_of_ble_eq_true rfl), (Nat.le_of_ble_eq_true rfl)⟩) rfl hl.1 rfl (Nat.le_of_ble_eq_true rfl) dX6_change_3 ⟨Nat.zero_le _, Nat.zero_le _⟩ (fun r_1 _ H locs Y hv => ?_)
  refine lv_if_eq (tgt := 18) hx hb dX6_change_6 (by decide) (fun hc => ?_) (fun hc => ?_)
  · have hv := hv.1 hc
    exact bk_X6_change_18 C Y (lv_sub hl [] rfl) hret hthr hv
  · have hv := hv.2 hc
    refine lv_iload_n hx hb dX6_change_9 rfl (lv_at hl 2 rfl) ?_
    refine lv_bipush (v := 6) hx hb dX6_change_10 (by decide) ?_
    refine z_callSi C Y (c_X6_isNumberOf l hv) (zFr.nil _) (va_cwS 2 hts gX6_change_X6_isNumberOf rfl rfl rfl (by decide +kernel) ⟨(Nat.le_of_ble_eq_true rfl), (Nat.le_of_ble_eq_true rfl)⟩) rfl hl.1 rfl (Nat.le_of_ble_eq_true rfl) dX6_change_12 ⟨Nat.zero_le _, Nat.zero_le _⟩ (fun r_2 _ H locs Y hv => ?_)
    refine lv_if_ne (tgt := 28) hx hb dX6_change_15 (by decide) (fun hc => ?_) (fun hc => ?_)
    · have hv := hv.2 hc
      refine lv_iload_n hx hb dX6_change_28 rfl (lv_at hl 3 rfl) ?_
      refine lv_iconst (v := 0) hx hb dX6_change_29 (by decide) ?_
      refine lv_sipush (v := 1000) hx hb dX6_change_30 (by decide) ?_
      refine z_callSi C Y (c_X6_isWithin l hv) (zFr.nil _) (va_cwS 3 hts gX6_change_X6_isWithin rfl rfl rfl (by decide +kernel) ⟨(Nat.le_of_ble_eq_true rfl), (Nat.le_of_ble_eq_true rfl)⟩) rfl hl.1 rfl (Nat.le_of_ble_eq_true rfl) dX6_change_33 ⟨Nat.zero_le _, Nat.zero_le _⟩ (fun r_3 _ H locs Y hv => ?_)
      refine lv_if_eq (tgt := 44) hx hb dX6_change_36 (by decide) (fun hc => ?_) (fun hc => ?_)
      · have hv := hv.1 hc
        exact bk_X6_change_44 C Y (lv_sub hl [] rfl) hret hthr hv
      · have hv := hv.2 hc
        refine lv_iload_n hx hb dX6_change_39 rfl (lv_at hl 1 rfl) ?_
        refine lv_iload_n hx hb dX6_change_40 rfl (lv_at hl 2 rfl) ?_
        refine lv_icmp_ne (tgt := 54) hx hb dX6_change_41 (by decide) (fun hc => ?_) (fun hc => ?_)
        · have hv := hv.2 hc
          refine lv_aload_n hx hb dX6_change_54 rfl (lv_at hl 0 rfl) ?_
          refine z_get C Y (Cn := RX6) (T := TX6) (N := 6) in_X6_change_6 rfl (ge6_6 ..) 5 (by decide) fl_X6_change_47 rfl dX6_change_55 ?_
          refine z_get C Y (Cn := RX4) (T := TX4) (N := 7) in_X6_change_4 rfl (ge6_4 ..) 0 (by decide) fl_X6_change_217 rfl dX6_change_58 ?_
          refine lv_iload_n hx hb dX6_change_61 rfl (lv_at hl 1 rfl) ?_
          refine lv_bipush (v := 6) hx hb dX6_change_62 (by decide) ?_
          refine lv_imul hx hb dX6_change_64 ?_
          refine lv_iload_n hx hb dX6_change_65 rfl (lv_at hl 2 rfl) ?_
          refine lv_iadd hx hb dX6_change_66 ?_
          refine lv_iload_n hx hb dX6_change_67 rfl (lv_at hl 3 rfl) ?_
          obtain ⟨hi, hv⟩ := hv
          refine z_stI C Y (pa6_4_0 ..) (sa6_4_0 ..) hi dX6_change_68 (fun H locs Y => ?_)
          obtain ⟨u4_4, eu4_4, Y, hv⟩ := z_nm (kf := fun z => (k6 a cI cZ (u0, u1, u2, u3, z, u5))) Y hv
          exact hret Y hv dX6_change_69
        · have hv := hv.1 hc
          exact bk_X6_change_44 C Y (lv_sub hl [] rfl) hret hthr hv
    · have hv := hv.1 hc
      exact bk_X6_change_18 C Y (lv_sub hl [] rfl) hret hthr hv

end
abbrev TX6_change := wp_X6_change_0
set_option maxHeartbeats 4000000 in
set_option maxRecDepth 100000 in
theorem c_X6_change (l : Launch) {D : va_G} {cI cZ cJ : ClassId} {a : Nat → Nat → Nat} (hlt : l.stackTraces = false) {Q1 : (zSt × zSt × zSt × zSt × zSt × zSt) → Prop} {QX : String → (zSt × zSt × zSt × zSt × zSt × zSt) → Prop} {p1 : Int32} {p2 : Int32} {p3 : Int32} {u0 : zSt} {u1 : zSt} {u2 : zSt} {u3 : zSt} {u4 : zSt} {u5 : zSt} (hv : wp_X6_change_0 Q1 QX p1 p2 p3 u0 u1 u2 u3 u4 u5) : zXV l yX6_change wsX6_change ({ frames := 6, cells := 1, slots := 6, locals := 90 } : Room) D cI cZ cJ [.ref (a 6 99), .int p1, .int p2, .int p3] (k6 a cI cZ (u0, u1, u2, u3, u4, u5)) (fun u : zSt × zSt × zSt × zSt × zSt × zSt => k6 a cI cZ u) Q1 QX :=
  z_ofXV hlt ⟨Nat.le_of_ble_eq_true rfl, Nat.le_of_ble_eq_true rfl, Nat.le_of_ble_eq_true rfl, Nat.le_of_ble_eq_true rfl⟩ (by decide) rfl rfl (Nat.le_of_ble_eq_true rfl) (fun C Y hl hret hthr => bk_X6_change_0 C Y hl hret hthr hv)


theorem in_X6_job_4 : ∀ w ∈ wsX40, w ∈ wsX6_job := by first | exact fun w h => List.mem_cons_of_mem _ (List.mem_append_right _ h) | exact fun w h => List.mem_cons_of_mem _ (List.mem_append_left _ (List.mem_append_right _ h)) | decide +kernel
theorem in_X6_job_6 : ∀ w ∈ wsX60, w ∈ wsX6_job := by first | exact fun w h => List.mem_cons_of_mem _ (List.mem_append_right _ h) | exact fun w h => List.mem_cons_of_mem _ (List.mem_append_left _ (List.mem_append_right _ h)) | decide +kernel
theorem fl_X6_job_47 : Cond.fieldLink RX6 47 (TX6 5).1 (TX6 5).2.1 (TX6 5).2.2.1 ∈ wsX6_job := by decide +kernel
theorem fl_X6_job_220 : Cond.fieldLink RX6 220 (TX4 1).1 (TX4 1).2.1 (TX4 1).2.2.1 ∈ wsX6_job := by decide +kernel
theorem th_X6_job_9 : zThr cX6_job RX6 wsX6_job "java/lang/IndexOutOfBoundsException" "no such colour" 82 213 86 9 := ⟨by decide +kernel, by decide +kernel, by decide +kernel, by decide +kernel, by decide +kernel, by decide +kernel, by decide +kernel, dX6_job_9, dX6_job_12, dX6_job_13, dX6_job_15, dX6_job_18⟩
section
variable {p : Program} {l : Launch} {e : Env} {s : State} {m : MethodId} {args : Array Value} {below : List Frame} {meth : Method} {c : Code} {H : Heap} {locs : List Loc} {Q : State → Prop} {D : va_G} {cI cZ cJ : ClassId} {A : Nat → Prop} {ls : Array Slot}
def wp_X6_job_0 (Q1 : Int32 → (zSt × zSt × zSt × zSt × zSt × zSt) → Prop) (QX : String → (zSt × zSt × zSt × zSt × zSt × zSt) → Prop) (p1 : Int32) (u0 : zSt) (u1 : zSt) (u2 : zSt) (u3 : zSt) (u4 : zSt) (u5 : zSt) : Prop :=
  TX6_isNumberOf (fun (r_1 : Int32) (_ : Unit) => (r_1 = (0 : Int32) → QX "java/lang/IndexOutOfBoundsException" (u0, u1, u2, u3, u4, u5)) ∧ (¬ r_1 = (0 : Int32) → ((u4.1 1) < (10 : Int32) → TX4_add (fun (r_3 : Int32) (u4_2 : zSt) => Q1 r_3 (u0, u1, u2, u3, u4_2, u5)) p1 u4) ∧ (¬ (u4.1 1) < (10 : Int32) → Q1 (-1) (u0, u1, u2, u3, u4, u5)))) p1 6 

set_option maxHeartbeats 4000000 in
set_option maxRecDepth 100000 in
theorem bk_X6_job_0 {a : Nat → Nat → Nat} {Q1 : Int32 → (zSt × zSt × zSt × zSt × zSt × zSt) → Prop} {QX : String → (zSt × zSt × zSt × zSt × zSt × zSt) → Prop} {p1 : Int32} {u0 : zSt} {u1 : zSt} {u2 : zSt} {u3 : zSt} {u4 : zSt} {u5 : zSt} (C : zCx p s m args c cX6_job 2 RX6 wsX6_job D cI cZ cJ A) (Y : zDy D A s.heap (k6 a cI cZ (u0, u1, u2, u3, u4, u5)) H locs) (hl : lv_has ls 2 [(0, .ref (a 6 99)), (1, .int p1)]) (hret : ∀ {pc : Nat} {H : Heap} {locs : List Loc} {ls : Array Slot} {r : Int32} {u : zSt × zSt × zSt × zSt × zSt × zSt}, zDy D A s.heap ((fun u : zSt × zSt × zSt × zSt × zSt × zSt => k6 a cI cZ u) u) H locs → Q1 r u → decode cX6_job pc = .ok (.ireturn, 1) → W p l e ({ frames := 6, cells := 1, slots := 6, locals := 90 } : Room) s m args below meth c H locs 0 0 Q (F0 m pc ls [.int r])) (hthr : ∀ {pc : Nat} {H : Heap} {locs : List Loc} {ls : Array Slot} {rest : List Value} {u : zSt × zSt × zSt × zSt × zSt × zSt} {E text : String} {ik is ic : Nat}, zDy D A s.heap ((fun u : zSt × zSt × zSt × zSt × zSt × zSt => k6 a cI cZ u) u) H locs → QX E u → zThr cX6_job RX6 wsX6_job E text ik is ic pc → ls.size = 2 → (rest.map fun v => v.category).sum ≤ 8 → W p l e ({ frames := 6, cells := 1, slots := 6, locals := 90 } : Room) s m args below meth c H locs 0 0 Q (F0 m pc ls rest)) (hv : wp_X6_job_0 Q1 QX p1 u0 u1 u2 u3 u4 u5) : W p l e ({ frames := 6, cells := 1, slots := 6, locals := 90 } : Room) s m args below meth c H locs 0 0 Q (F0 m 0 ls []) := by
  unfold wp_X6_job_0 at hv
  obtain ⟨hx, hb, hml, hown, hts, hK, hA⟩ := id C
  refine lv_iload_n hx hb dX6_job_0 rfl (lv_at hl 1 rfl) ?_
  refine lv_bipush (v := 6) hx hb dX6_job_1 (by decide) ?_
  refine z_callSi C Y (c_X6_isNumberOf l hv) (zFr.nil _) (va_cwS 2 hts gX6_job_X6_isNumberOf rfl rfl rfl (by decide +kernel) ⟨(Nat.le_of_ble_eq_true rfl), (Nat.le_of_ble_eq_true rfl)⟩) rfl hl.1 rfl (Nat.le_of_ble_eq_true rfl) dX6_job_3 ⟨Nat.zero_le _, Nat.zero_le _⟩ (fun r_1 _ H locs Y hv => ?_)
  refine lv_if_ne (tgt := 19) hx hb dX6_job_6 (by decide) (fun hc => ?_) (fun hc => ?_)
  · have hv := hv.2 hc
    refine lv_aload_n hx hb dX6_job_19 rfl (lv_at hl 0 rfl) ?_
    refine z_get C Y (Cn := RX6) (T := TX6) (N := 6) in_X6_job_6 rfl (ge6_6 ..) 5 (by decide) fl_X6_job_47 rfl dX6_job_20 ?_
    refine z_get C Y (Cn := RX4) (T := TX4) (N := 7) in_X6_job_4 rfl (ge6_4 ..) 1 (by decide) fl_X6_job_220 rfl dX6_job_23 ?_
    refine lv_bipush (v := 10) hx hb dX6_job_26 (by decide) ?_
    refine lv_icmp_lt (tgt := 35) hx hb dX6_job_28 (by decide) (fun hc => ?_) (fun hc => ?_)
    · have hv := hv.1 hc
      refine lv_aload_n hx hb dX6_job_35 rfl (lv_at hl 0 rfl) ?_
      refine z_get C Y (Cn := RX6) (T := TX6) (N := 6) in_X6_job_6 rfl (ge6_6 ..) 5 (by decide) fl_X6_job_47 rfl dX6_job_36 ?_
      refine lv_iload_n hx hb dX6_job_39 rfl (lv_at hl 1 rfl) ?_
      refine z_callVi C Y (c_X4_add l hv) (fr6_4 ..) (cwV 1 hts gX6_job_X4_add rfl rfl rfl (by decide +kernel) ⟨(Nat.le_of_ble_eq_true rfl), (Nat.le_of_ble_eq_true rfl)⟩) (ge4_4 ..) rfl rfl rfl hl.1 rfl (Nat.le_of_ble_eq_true rfl) dX6_job_40 ⟨Nat.zero_le _, Nat.zero_le _⟩ (fun r_3 u4_2 H locs Y hv => ?_)
      exact hret Y hv dX6_job_43
    · have hv := hv.2 hc
      refine lv_iconst (v := (-1)) hx hb dX6_job_31 (by decide) ?_
      refine lv_goto (tgt := 43) hx hb dX6_job_32 (by decide) ?_
      exact hret Y hv dX6_job_43
  · have hv := hv.1 hc
    exact hthr Y hv th_X6_job_9 hl.1 (Nat.le_of_ble_eq_true rfl)

end
abbrev TX6_job := wp_X6_job_0
set_option maxHeartbeats 4000000 in
set_option maxRecDepth 100000 in
theorem c_X6_job (l : Launch) {D : va_G} {cI cZ cJ : ClassId} {a : Nat → Nat → Nat} (hlt : l.stackTraces = false) {Q1 : Int32 → (zSt × zSt × zSt × zSt × zSt × zSt) → Prop} {QX : String → (zSt × zSt × zSt × zSt × zSt × zSt) → Prop} {p1 : Int32} {u0 : zSt} {u1 : zSt} {u2 : zSt} {u3 : zSt} {u4 : zSt} {u5 : zSt} (hv : wp_X6_job_0 Q1 QX p1 u0 u1 u2 u3 u4 u5) : zXI l yX6_job wsX6_job ({ frames := 6, cells := 1, slots := 6, locals := 90 } : Room) D cI cZ cJ [.ref (a 6 99), .int p1] (k6 a cI cZ (u0, u1, u2, u3, u4, u5)) (fun u : zSt × zSt × zSt × zSt × zSt × zSt => k6 a cI cZ u) Q1 QX :=
  z_ofXI hlt ⟨Nat.le_of_ble_eq_true rfl, Nat.le_of_ble_eq_true rfl, Nat.le_of_ble_eq_true rfl, Nat.le_of_ble_eq_true rfl⟩ (by decide) rfl rfl (Nat.le_of_ble_eq_true rfl) (fun C Y hl hret hthr => bk_X6_job_0 C Y hl hret hthr hv)


theorem in_X6_on_4 : ∀ w ∈ wsX40, w ∈ wsX6_on := by first | exact fun w h => List.mem_cons_of_mem _ (List.mem_append_right _ h) | exact fun w h => List.mem_cons_of_mem _ (List.mem_append_left _ (List.mem_append_right _ h)) | decide +kernel
theorem in_X6_on_6 : ∀ w ∈ wsX60, w ∈ wsX6_on := by first | exact fun w h => List.mem_cons_of_mem _ (List.mem_append_right _ h) | exact fun w h => List.mem_cons_of_mem _ (List.mem_append_left _ (List.mem_append_right _ h)) | decide +kernel
theorem fl_X6_on_47 : Cond.fieldLink RX6 47 (TX6 5).1 (TX6 5).2.1 (TX6 5).2.2.1 ∈ wsX6_on := by decide +kernel
theorem fl_X6_on_226 : Cond.fieldLink RX6 226 (TX4 2).1 (TX4 2).2.1 (TX4 2).2.2.1 ∈ wsX6_on := by decide +kernel
theorem th_X6_on_14 : zThr cX6_on RX6 wsX6_on "java/lang/IndexOutOfBoundsException" "no such colour" 82 213 86 14 := ⟨by decide +kernel, by decide +kernel, by decide +kernel, by decide +kernel, by decide +kernel, by decide +kernel, by decide +kernel, dX6_on_14, dX6_on_17, dX6_on_18, dX6_on_20, dX6_on_23⟩
section
variable {p : Program} {l : Launch} {e : Env} {s : State} {m : MethodId} {args : Array Value} {below : List Frame} {meth : Method} {c : Code} {H : Heap} {locs : List Loc} {Q : State → Prop} {D : va_G} {cI cZ cJ : ClassId} {A : Nat → Prop} {ls : Array Slot}
def wp_X6_on_24 (Q1 : (zSt × zSt × zSt × zSt × zSt × zSt) → Prop) (QX : String → (zSt × zSt × zSt × zSt × zSt × zSt) → Prop) (x1 : Int32) (u0 : zSt) (u1 : zSt) (u2 : zSt) (u3 : zSt) (u4 : zSt) (u5 : zSt) : Prop :=
  ∀ u4_1 : zSt, u4_1 = zI u4 2 x1 → Q1 (u0, u1, u2, u3, u4_1, u5)

set_option maxHeartbeats 4000000 in
set_option maxRecDepth 100000 in
theorem bk_X6_on_24 {a : Nat → Nat → Nat} {Q1 : (zSt × zSt × zSt × zSt × zSt × zSt) → Prop} {QX : String → (zSt × zSt × zSt × zSt × zSt × zSt) → Prop} {x1 : Int32} {u0 : zSt} {u1 : zSt} {u2 : zSt} {u3 : zSt} {u4 : zSt} {u5 : zSt} (C : zCx p s m args c cX6_on 2 RX6 wsX6_on D cI cZ cJ A) (Y : zDy D A s.heap (k6 a cI cZ (u0, u1, u2, u3, u4, u5)) H locs) (hl : lv_has ls 2 [(0, .ref (a 6 99)), (1, .int x1)]) (hret : ∀ {pc : Nat} {H : Heap} {locs : List Loc} {ls : Array Slot} {u : zSt × zSt × zSt × zSt × zSt × zSt}, zDy D A s.heap ((fun u : zSt × zSt × zSt × zSt × zSt × zSt => k6 a cI cZ u) u) H locs → Q1 u → decode cX6_on pc = .ok (.return_, 1) → W p l e ({ frames := 6, cells := 1, slots := 6, locals := 90 } : Room) s m args below meth c H locs 0 0 Q (F0 m pc ls [])) (hthr : ∀ {pc : Nat} {H : Heap} {locs : List Loc} {ls : Array Slot} {rest : List Value} {u : zSt × zSt × zSt × zSt × zSt × zSt} {E text : String} {ik is ic : Nat}, zDy D A s.heap ((fun u : zSt × zSt × zSt × zSt × zSt × zSt => k6 a cI cZ u) u) H locs → QX E u → zThr cX6_on RX6 wsX6_on E text ik is ic pc → ls.size = 2 → (rest.map fun v => v.category).sum ≤ 8 → W p l e ({ frames := 6, cells := 1, slots := 6, locals := 90 } : Room) s m args below meth c H locs 0 0 Q (F0 m pc ls rest)) (hv : wp_X6_on_24 Q1 QX x1 u0 u1 u2 u3 u4 u5) : W p l e ({ frames := 6, cells := 1, slots := 6, locals := 90 } : Room) s m args below meth c H locs 0 0 Q (F0 m 24 ls []) := by
  unfold wp_X6_on_24 at hv
  obtain ⟨hx, hb, hml, hown, hts, hK, hA⟩ := id C
  refine lv_aload_n hx hb dX6_on_24 rfl (lv_at hl 0 rfl) ?_
  refine z_get C Y (Cn := RX6) (T := TX6) (N := 6) in_X6_on_6 rfl (ge6_6 ..) 5 (by decide) fl_X6_on_47 rfl dX6_on_25 ?_
  refine lv_iload_n hx hb dX6_on_28 rfl (lv_at hl 1 rfl) ?_
  refine z_putI C Y (Cn := RX4) (T := TX4) (N := 7) in_X6_on_4 rfl tyX4 tyX4_ok nmX4 (ge6_4 ..) 2 (by decide) fl_X6_on_226 rfl (by decide +kernel) (Nat.le_of_ble_eq_true rfl) (si6_4_2 ..) dX6_on_29 (fun H locs Y => ?_)
  obtain ⟨u4_1, eu4_1, Y, hv⟩ := z_nm (kf := fun z => (k6 a cI cZ (u0, u1, u2, u3, z, u5))) Y hv
  exact hret Y hv dX6_on_32

def wp_X6_on_0 (Q1 : (zSt × zSt × zSt × zSt × zSt × zSt) → Prop) (QX : String → (zSt × zSt × zSt × zSt × zSt × zSt) → Prop) (p1 : Int32) (u0 : zSt) (u1 : zSt) (u2 : zSt) (u3 : zSt) (u4 : zSt) (u5 : zSt) : Prop :=
  (p1 = (-1 : Int32) → wp_X6_on_24 Q1 QX p1 u0 u1 u2 u3 u4 u5) ∧ (¬ p1 = (-1 : Int32) → TX6_isNumberOf (fun (r_1 : Int32) (_ : Unit) => (r_1 = (0 : Int32) → QX "java/lang/IndexOutOfBoundsException" (u0, u1, u2, u3, u4, u5)) ∧ (¬ r_1 = (0 : Int32) → wp_X6_on_24 Q1 QX p1 u0 u1 u2 u3 u4 u5)) p1 6 )

set_option maxHeartbeats 4000000 in
set_option maxRecDepth 100000 in
theorem bk_X6_on_0 {a : Nat → Nat → Nat} {Q1 : (zSt × zSt × zSt × zSt × zSt × zSt) → Prop} {QX : String → (zSt × zSt × zSt × zSt × zSt × zSt) → Prop} {p1 : Int32} {u0 : zSt} {u1 : zSt} {u2 : zSt} {u3 : zSt} {u4 : zSt} {u5 : zSt} (C : zCx p s m args c cX6_on 2 RX6 wsX6_on D cI cZ cJ A) (Y : zDy D A s.heap (k6 a cI cZ (u0, u1, u2, u3, u4, u5)) H locs) (hl : lv_has ls 2 [(0, .ref (a 6 99)), (1, .int p1)]) (hret : ∀ {pc : Nat} {H : Heap} {locs : List Loc} {ls : Array Slot} {u : zSt × zSt × zSt × zSt × zSt × zSt}, zDy D A s.heap ((fun u : zSt × zSt × zSt × zSt × zSt × zSt => k6 a cI cZ u) u) H locs → Q1 u → decode cX6_on pc = .ok (.return_, 1) → W p l e ({ frames := 6, cells := 1, slots := 6, locals := 90 } : Room) s m args below meth c H locs 0 0 Q (F0 m pc ls [])) (hthr : ∀ {pc : Nat} {H : Heap} {locs : List Loc} {ls : Array Slot} {rest : List Value} {u : zSt × zSt × zSt × zSt × zSt × zSt} {E text : String} {ik is ic : Nat}, zDy D A s.heap ((fun u : zSt × zSt × zSt × zSt × zSt × zSt => k6 a cI cZ u) u) H locs → QX E u → zThr cX6_on RX6 wsX6_on E text ik is ic pc → ls.size = 2 → (rest.map fun v => v.category).sum ≤ 8 → W p l e ({ frames := 6, cells := 1, slots := 6, locals := 90 } : Room) s m args below meth c H locs 0 0 Q (F0 m pc ls rest)) (hv : wp_X6_on_0 Q1 QX p1 u0 u1 u2 u3 u4 u5) : W p l e ({ frames := 6, cells := 1, slots := 6, locals := 90 } : Room) s m args below meth c H locs 0 0 Q (F0 m 0 ls []) := by
  unfold wp_X6_on_0 at hv
  obtain ⟨hx, hb, hml, hown, hts, hK, hA⟩ := id C
  refine lv_iload_n hx hb dX6_on_0 rfl (lv_at hl 1 rfl) ?_
  refine lv_iconst (v := (-1)) hx hb dX6_on_1 (by decide) ?_
  refine lv_icmp_eq (tgt := 24) hx hb dX6_on_2 (by decide) (fun hc => ?_) (fun hc => ?_)
  · have hv := hv.1 hc
    exact bk_X6_on_24 C Y (lv_sub hl [0, 1] rfl) hret hthr hv
  · have hv := hv.2 hc
    refine lv_iload_n hx hb dX6_on_5 rfl (lv_at hl 1 rfl) ?_
    refine lv_bipush (v := 6) hx hb dX6_on_6 (by decide) ?_
    refine z_callSi C Y (c_X6_isNumberOf l hv) (zFr.nil _) (va_cwS 2 hts gX6_on_X6_isNumberOf rfl rfl rfl (by decide +kernel) ⟨(Nat.le_of_ble_eq_true rfl), (Nat.le_of_ble_eq_true rfl)⟩) rfl hl.1 rfl (Nat.le_of_ble_eq_true rfl) dX6_on_8 ⟨Nat.zero_le _, Nat.zero_le _⟩ (fun r_1 _ H locs Y hv => ?_)
    refine lv_if_ne (tgt := 24) hx hb dX6_on_11 (by decide) (fun hc => ?_) (fun hc => ?_)
    · have hv := hv.2 hc
      exact bk_X6_on_24 C Y (lv_sub hl [0, 1] rfl) hret hthr hv
    · have hv := hv.1 hc
      exact hthr Y hv th_X6_on_14 hl.1 (Nat.le_of_ble_eq_true rfl)

end
abbrev TX6_on := wp_X6_on_0
set_option maxHeartbeats 4000000 in
set_option maxRecDepth 100000 in
theorem c_X6_on (l : Launch) {D : va_G} {cI cZ cJ : ClassId} {a : Nat → Nat → Nat} (hlt : l.stackTraces = false) {Q1 : (zSt × zSt × zSt × zSt × zSt × zSt) → Prop} {QX : String → (zSt × zSt × zSt × zSt × zSt × zSt) → Prop} {p1 : Int32} {u0 : zSt} {u1 : zSt} {u2 : zSt} {u3 : zSt} {u4 : zSt} {u5 : zSt} (hv : wp_X6_on_0 Q1 QX p1 u0 u1 u2 u3 u4 u5) : zXV l yX6_on wsX6_on ({ frames := 6, cells := 1, slots := 6, locals := 90 } : Room) D cI cZ cJ [.ref (a 6 99), .int p1] (k6 a cI cZ (u0, u1, u2, u3, u4, u5)) (fun u : zSt × zSt × zSt × zSt × zSt × zSt => k6 a cI cZ u) Q1 QX :=
  z_ofXV hlt ⟨Nat.le_of_ble_eq_true rfl, Nat.le_of_ble_eq_true rfl, Nat.le_of_ble_eq_true rfl, Nat.le_of_ble_eq_true rfl⟩ (by decide) rfl rfl (Nat.le_of_ble_eq_true rfl) (fun C Y hl hret hthr => bk_X6_on_0 C Y hl hret hthr hv)


theorem in_X6_changes_6 : ∀ w ∈ wsX60, w ∈ wsX6_changes := by first | exact fun w h => List.mem_cons_of_mem _ (List.mem_append_right _ h) | exact fun w h => List.mem_cons_of_mem _ (List.mem_append_left _ (List.mem_append_right _ h)) | decide +kernel
theorem fl_X6_changes_47 : Cond.fieldLink RX6 47 (TX6 5).1 (TX6 5).2.1 (TX6 5).2.2.1 ∈ wsX6_changes := by decide +kernel
section
variable {p : Program} {l : Launch} {e : Env} {s : State} {m : MethodId} {args : Array Value} {below : List Frame} {meth : Method} {c : Code} {H : Heap} {locs : List Loc} {Q : State → Prop} {D : va_G} {cI cZ cJ : ClassId} {A : Nat → Prop} {ls : Array Slot}
def wp_X6_changes_0 (Q1 : Int32 → (zSt × zSt × zSt × zSt × zSt × zSt) → Prop) (u0 : zSt) (u1 : zSt) (u2 : zSt) (u3 : zSt) (u4 : zSt) (u5 : zSt) : Prop :=
  TX4_runJobs (fun (r_2 : Int32) (u4_1 : zSt) => Q1 r_2 (u0, u1, u2, u3, u4_1, u5))  u4

set_option maxHeartbeats 4000000 in
set_option maxRecDepth 100000 in
theorem bk_X6_changes_0 {a : Nat → Nat → Nat} {Q1 : Int32 → (zSt × zSt × zSt × zSt × zSt × zSt) → Prop} {u0 : zSt} {u1 : zSt} {u2 : zSt} {u3 : zSt} {u4 : zSt} {u5 : zSt} (C : zCx p s m args c cX6_changes 1 RX6 wsX6_changes D cI cZ cJ A) (Y : zDy D A s.heap (k6 a cI cZ (u0, u1, u2, u3, u4, u5)) H locs) (hl : lv_has ls 1 [(0, .ref (a 6 99))]) (hret : ∀ {pc : Nat} {H : Heap} {locs : List Loc} {ls : Array Slot} {r : Int32} {u : zSt × zSt × zSt × zSt × zSt × zSt}, zDy D A s.heap ((fun u : zSt × zSt × zSt × zSt × zSt × zSt => k6 a cI cZ u) u) H locs → Q1 r u → decode cX6_changes pc = .ok (.ireturn, 1) → W p l e ({ frames := 4, cells := 0, slots := 0, locals := 98 } : Room) s m args below meth c H locs 0 0 Q (F0 m pc ls [.int r])) (hv : wp_X6_changes_0 Q1  u0 u1 u2 u3 u4 u5) : W p l e ({ frames := 4, cells := 0, slots := 0, locals := 98 } : Room) s m args below meth c H locs 0 0 Q (F0 m 0 ls []) := by
  unfold wp_X6_changes_0 at hv
  obtain ⟨hx, hb, hml, hown, hts, hK, hA⟩ := id C
  refine lv_aload_n hx hb dX6_changes_0 rfl (lv_at hl 0 rfl) ?_
  refine z_get C Y (Cn := RX6) (T := TX6) (N := 6) in_X6_changes_6 rfl (ge6_6 ..) 5 (by decide) fl_X6_changes_47 rfl dX6_changes_1 ?_
  refine z_callVi C Y (c_X4_runJobs l hv) (fr6_4 ..) (cwV 0 hts gX6_changes_X4_runJobs rfl rfl rfl (by decide +kernel) ⟨(Nat.le_of_ble_eq_true rfl), (Nat.le_of_ble_eq_true rfl)⟩) (ge4_4 ..) rfl rfl rfl hl.1 rfl (Nat.le_of_ble_eq_true rfl) dX6_changes_4 ⟨Nat.zero_le _, Nat.zero_le _⟩ (fun r_2 u4_1 H locs Y hv => ?_)
  exact hret Y hv dX6_changes_7

end
abbrev TX6_changes := wp_X6_changes_0
set_option maxHeartbeats 4000000 in
set_option maxRecDepth 100000 in
theorem c_X6_changes (l : Launch) {D : va_G} {cI cZ cJ : ClassId} {a : Nat → Nat → Nat} {Q1 : Int32 → (zSt × zSt × zSt × zSt × zSt × zSt) → Prop} {u0 : zSt} {u1 : zSt} {u2 : zSt} {u3 : zSt} {u4 : zSt} {u5 : zSt} (hv : wp_X6_changes_0 Q1  u0 u1 u2 u3 u4 u5) : zMI l yX6_changes wsX6_changes ({ frames := 4, cells := 0, slots := 0, locals := 98 } : Room) D cI cZ cJ [.ref (a 6 99)] (k6 a cI cZ (u0, u1, u2, u3, u4, u5)) (fun u : zSt × zSt × zSt × zSt × zSt × zSt => k6 a cI cZ u) Q1 :=
  z_ofI (by decide) rfl rfl (Nat.le_of_ble_eq_true rfl) (fun C Y hl hret => bk_X6_changes_0 C Y hl hret hv)


theorem in_X6_count_1 : ∀ w ∈ wsX10, w ∈ wsX6_count := by first | exact fun w h => List.mem_cons_of_mem _ (List.mem_append_right _ h) | exact fun w h => List.mem_cons_of_mem _ (List.mem_append_left _ (List.mem_append_right _ h)) | decide +kernel
theorem in_X6_count_2 : ∀ w ∈ wsX20, w ∈ wsX6_count := by first | exact fun w h => List.mem_cons_of_mem _ (List.mem_append_right _ h) | exact fun w h => List.mem_cons_of_mem _ (List.mem_append_left _ (List.mem_append_right _ h)) | decide +kernel
theorem in_X6_count_3 : ∀ w ∈ wsX30, w ∈ wsX6_count := by first | exact fun w h => List.mem_cons_of_mem _ (List.mem_append_right _ h) | exact fun w h => List.mem_cons_of_mem _ (List.mem_append_left _ (List.mem_append_right _ h)) | decide +kernel
theorem in_X6_count_4 : ∀ w ∈ wsX40, w ∈ wsX6_count := by first | exact fun w h => List.mem_cons_of_mem _ (List.mem_append_right _ h) | exact fun w h => List.mem_cons_of_mem _ (List.mem_append_left _ (List.mem_append_right _ h)) | decide +kernel
theorem in_X6_count_5 : ∀ w ∈ wsX50, w ∈ wsX6_count := by first | exact fun w h => List.mem_cons_of_mem _ (List.mem_append_right _ h) | exact fun w h => List.mem_cons_of_mem _ (List.mem_append_left _ (List.mem_append_right _ h)) | decide +kernel
theorem in_X6_count_6 : ∀ w ∈ wsX60, w ∈ wsX6_count := by first | exact fun w h => List.mem_cons_of_mem _ (List.mem_append_right _ h) | exact fun w h => List.mem_cons_of_mem _ (List.mem_append_left _ (List.mem_append_right _ h)) | decide +kernel
theorem fl_X6_count_10 : Cond.fieldLink RX6 10 (TX6 0).1 (TX6 0).2.1 (TX6 0).2.2.1 ∈ wsX6_count := by decide +kernel
theorem fl_X6_count_19 : Cond.fieldLink RX6 19 (TX6 1).1 (TX6 1).2.1 (TX6 1).2.2.1 ∈ wsX6_count := by decide +kernel
theorem fl_X6_count_26 : Cond.fieldLink RX6 26 (TX6 2).1 (TX6 2).2.1 (TX6 2).2.2.1 ∈ wsX6_count := by decide +kernel
theorem fl_X6_count_40 : Cond.fieldLink RX6 40 (TX6 4).1 (TX6 4).2.1 (TX6 4).2.2.1 ∈ wsX6_count := by decide +kernel
theorem fl_X6_count_47 : Cond.fieldLink RX6 47 (TX6 5).1 (TX6 5).2.1 (TX6 5).2.2.1 ∈ wsX6_count := by decide +kernel
theorem fl_X6_count_66 : Cond.fieldLink RX6 66 (TX1 4).1 (TX1 4).2.1 (TX1 4).2.2.1 ∈ wsX6_count := by decide +kernel
theorem fl_X6_count_105 : Cond.fieldLink RX6 105 (TX3 5).1 (TX3 5).2.1 (TX3 5).2.2.1 ∈ wsX6_count := by decide +kernel
theorem fl_X6_count_127 : Cond.fieldLink RX6 127 (TX3 7).1 (TX3 7).2.1 (TX3 7).2.2.1 ∈ wsX6_count := by decide +kernel
theorem fl_X6_count_152 : Cond.fieldLink RX6 152 (TX5 5).1 (TX5 5).2.1 (TX5 5).2.2.1 ∈ wsX6_count := by decide +kernel
theorem fl_X6_count_170 : Cond.fieldLink RX6 170 (TX5 4).1 (TX5 4).2.1 (TX5 4).2.2.1 ∈ wsX6_count := by decide +kernel
theorem fl_X6_count_205 : Cond.fieldLink RX6 205 (TX2 5).1 (TX2 5).2.1 (TX2 5).2.2.1 ∈ wsX6_count := by decide +kernel
theorem fl_X6_count_220 : Cond.fieldLink RX6 220 (TX4 1).1 (TX4 1).2.1 (TX4 1).2.2.1 ∈ wsX6_count := by decide +kernel
theorem fl_X6_count_226 : Cond.fieldLink RX6 226 (TX4 2).1 (TX4 2).2.1 (TX4 2).2.2.1 ∈ wsX6_count := by decide +kernel
theorem fl_X6_count_232 : Cond.fieldLink RX6 232 (TX3 8).1 (TX3 8).2.1 (TX3 8).2.2.1 ∈ wsX6_count := by decide +kernel
theorem fl_X6_count_235 : Cond.fieldLink RX6 235 (TX2 1).1 (TX2 1).2.1 (TX2 1).2.2.1 ∈ wsX6_count := by decide +kernel
section
variable {p : Program} {l : Launch} {e : Env} {s : State} {m : MethodId} {args : Array Value} {below : List Frame} {meth : Method} {c : Code} {H : Heap} {locs : List Loc} {Q : State → Prop} {D : va_G} {cI cZ cJ : ClassId} {A : Nat → Prop} {ls : Array Slot}
def wp_X6_count_0 (Q1 : Int32 → (zSt × zSt × zSt × zSt × zSt × zSt) → Prop) (p1 : Int32) (u0 : zSt) (u1 : zSt) (u2 : zSt) (u3 : zSt) (u4 : zSt) (u5 : zSt) : Prop :=
  ∀ t_1 : Int32, t_1 = p1 → (t_1 = 0 → Q1 (u5.1 5) (u0, u1, u2, u3, u4, u5)) ∧ (¬ t_1 = 0 → (t_1 = 1 → Q1 (u1.1 4) (u0, u1, u2, u3, u4, u5)) ∧ (¬ t_1 = 1 → (t_1 = 2 → Q1 (u3.1 5) (u0, u1, u2, u3, u4, u5)) ∧ (¬ t_1 = 2 → (t_1 = 3 → Q1 (u3.1 7) (u0, u1, u2, u3, u4, u5)) ∧ (¬ t_1 = 3 → (t_1 = 4 → Q1 (u3.1 8) (u0, u1, u2, u3, u4, u5)) ∧ (¬ t_1 = 4 → (t_1 = 5 → Q1 (u5.1 4) (u0, u1, u2, u3, u4, u5)) ∧ (¬ t_1 = 5 → (t_1 = 6 → Q1 (u2.1 1) (u0, u1, u2, u3, u4, u5)) ∧ (¬ t_1 = 6 → (t_1 = 7 → Q1 (u2.1 5) (u0, u1, u2, u3, u4, u5)) ∧ (¬ t_1 = 7 → (t_1 = 8 → Q1 (u4.1 1) (u0, u1, u2, u3, u4, u5)) ∧ (¬ t_1 = 8 → (t_1 = 9 → Q1 (u4.1 2) (u0, u1, u2, u3, u4, u5)) ∧ (¬ t_1 = 9 → Q1 (-1) (u0, u1, u2, u3, u4, u5)))))))))))

set_option maxHeartbeats 4000000 in
set_option maxRecDepth 100000 in
theorem bk_X6_count_0 {a : Nat → Nat → Nat} {Q1 : Int32 → (zSt × zSt × zSt × zSt × zSt × zSt) → Prop} {p1 : Int32} {u0 : zSt} {u1 : zSt} {u2 : zSt} {u3 : zSt} {u4 : zSt} {u5 : zSt} (C : zCx p s m args c cX6_count 2 RX6 wsX6_count D cI cZ cJ A) (Y : zDy D A s.heap (k6 a cI cZ (u0, u1, u2, u3, u4, u5)) H locs) (hl : lv_has ls 2 [(0, .ref (a 6 99)), (1, .int p1)]) (hret : ∀ {pc : Nat} {H : Heap} {locs : List Loc} {ls : Array Slot} {r : Int32} {u : zSt × zSt × zSt × zSt × zSt × zSt}, zDy D A s.heap ((fun u : zSt × zSt × zSt × zSt × zSt × zSt => k6 a cI cZ u) u) H locs → Q1 r u → decode cX6_count pc = .ok (.ireturn, 1) → W p l e ({ frames := 0, cells := 0, slots := 0, locals := 0 } : Room) s m args below meth c H locs 0 0 Q (F0 m pc ls [.int r])) (hv : wp_X6_count_0 Q1 p1 u0 u1 u2 u3 u4 u5) : W p l e ({ frames := 0, cells := 0, slots := 0, locals := 0 } : Room) s m args below meth c H locs 0 0 Q (F0 m 0 ls []) := by
  unfold wp_X6_count_0 at hv
  obtain ⟨hx, hb, hml, hown, hts, hK, hA⟩ := id C
  refine lv_iload_n hx hb dX6_count_0 rfl (lv_at hl 1 rfl) ?_
  refine z_topi hv (fun t_1 et_1 hv => ?_)
  by_cases h0_1 : t_1 = 0
  · have hv := hv.1 h0_1
    rw [h0_1]
    refine lv_tableIn (off := 55) (tgt := 56) hx hb dX6_count_1 (by decide) (by decide) (by decide) (by decide) ?_
    refine lv_aload_n hx hb dX6_count_56 rfl (lv_at hl 0 rfl) ?_
    refine z_get C Y (Cn := RX6) (T := TX6) (N := 6) in_X6_count_6 rfl (ge6_6 ..) 2 (by decide) fl_X6_count_26 rfl dX6_count_57 ?_
    refine z_get C Y (Cn := RX5) (T := TX5) (N := 6) in_X6_count_5 rfl (ge6_5 ..) 5 (by decide) fl_X6_count_152 rfl dX6_count_60 ?_
    exact hret Y hv dX6_count_63
  replace hv := hv.2 h0_1
  by_cases h1_1 : t_1 = 1
  · have hv := hv.1 h1_1
    rw [h1_1]
    refine lv_tableIn (off := 63) (tgt := 64) hx hb dX6_count_1 (by decide) (by decide) (by decide) (by decide) ?_
    refine lv_aload_n hx hb dX6_count_64 rfl (lv_at hl 0 rfl) ?_
    refine z_get C Y (Cn := RX6) (T := TX6) (N := 6) in_X6_count_6 rfl (ge6_6 ..) 0 (by decide) fl_X6_count_10 rfl dX6_count_65 ?_
    refine z_get C Y (Cn := RX1) (T := TX1) (N := 16) in_X6_count_1 rfl (ge6_1 ..) 4 (by decide) fl_X6_count_66 rfl dX6_count_68 ?_
    exact hret Y hv dX6_count_71
  replace hv := hv.2 h1_1
  by_cases h2_1 : t_1 = 2
  · have hv := hv.1 h2_1
    rw [h2_1]
    refine lv_tableIn (off := 71) (tgt := 72) hx hb dX6_count_1 (by decide) (by decide) (by decide) (by decide) ?_
    refine lv_aload_n hx hb dX6_count_72 rfl (lv_at hl 0 rfl) ?_
    refine z_get C Y (Cn := RX6) (T := TX6) (N := 6) in_X6_count_6 rfl (ge6_6 ..) 1 (by decide) fl_X6_count_19 rfl dX6_count_73 ?_
    refine z_get C Y (Cn := RX3) (T := TX3) (N := 9) in_X6_count_3 rfl (ge6_3 ..) 5 (by decide) fl_X6_count_105 rfl dX6_count_76 ?_
    exact hret Y hv dX6_count_79
  replace hv := hv.2 h2_1
  by_cases h3_1 : t_1 = 3
  · have hv := hv.1 h3_1
    rw [h3_1]
    refine lv_tableIn (off := 79) (tgt := 80) hx hb dX6_count_1 (by decide) (by decide) (by decide) (by decide) ?_
    refine lv_aload_n hx hb dX6_count_80 rfl (lv_at hl 0 rfl) ?_
    refine z_get C Y (Cn := RX6) (T := TX6) (N := 6) in_X6_count_6 rfl (ge6_6 ..) 1 (by decide) fl_X6_count_19 rfl dX6_count_81 ?_
    refine z_get C Y (Cn := RX3) (T := TX3) (N := 9) in_X6_count_3 rfl (ge6_3 ..) 7 (by decide) fl_X6_count_127 rfl dX6_count_84 ?_
    exact hret Y hv dX6_count_87
  replace hv := hv.2 h3_1
  by_cases h4_1 : t_1 = 4
  · have hv := hv.1 h4_1
    rw [h4_1]
    refine lv_tableIn (off := 87) (tgt := 88) hx hb dX6_count_1 (by decide) (by decide) (by decide) (by decide) ?_
    refine lv_aload_n hx hb dX6_count_88 rfl (lv_at hl 0 rfl) ?_
    refine z_get C Y (Cn := RX6) (T := TX6) (N := 6) in_X6_count_6 rfl (ge6_6 ..) 1 (by decide) fl_X6_count_19 rfl dX6_count_89 ?_
    refine z_get C Y (Cn := RX3) (T := TX3) (N := 9) in_X6_count_3 rfl (ge6_3 ..) 8 (by decide) fl_X6_count_232 rfl dX6_count_92 ?_
    exact hret Y hv dX6_count_95
  replace hv := hv.2 h4_1
  by_cases h5_1 : t_1 = 5
  · have hv := hv.1 h5_1
    rw [h5_1]
    refine lv_tableIn (off := 95) (tgt := 96) hx hb dX6_count_1 (by decide) (by decide) (by decide) (by decide) ?_
    refine lv_aload_n hx hb dX6_count_96 rfl (lv_at hl 0 rfl) ?_
    refine z_get C Y (Cn := RX6) (T := TX6) (N := 6) in_X6_count_6 rfl (ge6_6 ..) 2 (by decide) fl_X6_count_26 rfl dX6_count_97 ?_
    refine z_get C Y (Cn := RX5) (T := TX5) (N := 6) in_X6_count_5 rfl (ge6_5 ..) 4 (by decide) fl_X6_count_170 rfl dX6_count_100 ?_
    exact hret Y hv dX6_count_103
  replace hv := hv.2 h5_1
  by_cases h6_1 : t_1 = 6
  · have hv := hv.1 h6_1
    rw [h6_1]
    refine lv_tableIn (off := 103) (tgt := 104) hx hb dX6_count_1 (by decide) (by decide) (by decide) (by decide) ?_
    refine lv_aload_n hx hb dX6_count_104 rfl (lv_at hl 0 rfl) ?_
    refine z_get C Y (Cn := RX6) (T := TX6) (N := 6) in_X6_count_6 rfl (ge6_6 ..) 4 (by decide) fl_X6_count_40 rfl dX6_count_105 ?_
    refine z_get C Y (Cn := RX2) (T := TX2) (N := 7) in_X6_count_2 rfl (ge6_2 ..) 1 (by decide) fl_X6_count_235 rfl dX6_count_108 ?_
    exact hret Y hv dX6_count_111
  replace hv := hv.2 h6_1
  by_cases h7_1 : t_1 = 7
  · have hv := hv.1 h7_1
    rw [h7_1]
    refine lv_tableIn (off := 111) (tgt := 112) hx hb dX6_count_1 (by decide) (by decide) (by decide) (by decide) ?_
    refine lv_aload_n hx hb dX6_count_112 rfl (lv_at hl 0 rfl) ?_
    refine z_get C Y (Cn := RX6) (T := TX6) (N := 6) in_X6_count_6 rfl (ge6_6 ..) 4 (by decide) fl_X6_count_40 rfl dX6_count_113 ?_
    refine z_get C Y (Cn := RX2) (T := TX2) (N := 7) in_X6_count_2 rfl (ge6_2 ..) 5 (by decide) fl_X6_count_205 rfl dX6_count_116 ?_
    exact hret Y hv dX6_count_119
  replace hv := hv.2 h7_1
  by_cases h8_1 : t_1 = 8
  · have hv := hv.1 h8_1
    rw [h8_1]
    refine lv_tableIn (off := 119) (tgt := 120) hx hb dX6_count_1 (by decide) (by decide) (by decide) (by decide) ?_
    refine lv_aload_n hx hb dX6_count_120 rfl (lv_at hl 0 rfl) ?_
    refine z_get C Y (Cn := RX6) (T := TX6) (N := 6) in_X6_count_6 rfl (ge6_6 ..) 5 (by decide) fl_X6_count_47 rfl dX6_count_121 ?_
    refine z_get C Y (Cn := RX4) (T := TX4) (N := 7) in_X6_count_4 rfl (ge6_4 ..) 1 (by decide) fl_X6_count_220 rfl dX6_count_124 ?_
    exact hret Y hv dX6_count_127
  replace hv := hv.2 h8_1
  by_cases h9_1 : t_1 = 9
  · have hv := hv.1 h9_1
    rw [h9_1]
    refine lv_tableIn (off := 127) (tgt := 128) hx hb dX6_count_1 (by decide) (by decide) (by decide) (by decide) ?_
    refine lv_aload_n hx hb dX6_count_128 rfl (lv_at hl 0 rfl) ?_
    refine z_get C Y (Cn := RX6) (T := TX6) (N := 6) in_X6_count_6 rfl (ge6_6 ..) 5 (by decide) fl_X6_count_47 rfl dX6_count_129 ?_
    refine z_get C Y (Cn := RX4) (T := TX4) (N := 7) in_X6_count_4 rfl (ge6_4 ..) 2 (by decide) fl_X6_count_226 rfl dX6_count_132 ?_
    exact hret Y hv dX6_count_135
  replace hv := hv.2 h9_1
  refine lv_tableOut (tgt := 136) hx hb dX6_count_1 (by have q0 := lv_neT h0_1 (a := 0) (by decide); have q1 := lv_neT h1_1 (a := 1) (by decide); have q2 := lv_neT h2_1 (a := 2) (by decide); have q3 := lv_neT h3_1 (a := 3) (by decide); have q4 := lv_neT h4_1 (a := 4) (by decide); have q5 := lv_neT h5_1 (a := 5) (by decide); have q6 := lv_neT h6_1 (a := 6) (by decide); have q7 := lv_neT h7_1 (a := 7) (by decide); have q8 := lv_neT h8_1 (a := 8) (by decide); have q9 := lv_neT h9_1 (a := 9) (by decide); omega) (by decide) ?_
  refine lv_iconst (v := (-1)) hx hb dX6_count_136 (by decide) ?_
  exact hret Y hv dX6_count_137

end
abbrev TX6_count := wp_X6_count_0
set_option maxHeartbeats 4000000 in
set_option maxRecDepth 100000 in
theorem c_X6_count (l : Launch) {D : va_G} {cI cZ cJ : ClassId} {a : Nat → Nat → Nat} {Q1 : Int32 → (zSt × zSt × zSt × zSt × zSt × zSt) → Prop} {p1 : Int32} {u0 : zSt} {u1 : zSt} {u2 : zSt} {u3 : zSt} {u4 : zSt} {u5 : zSt} (hv : wp_X6_count_0 Q1 p1 u0 u1 u2 u3 u4 u5) : zMI l yX6_count wsX6_count ({ frames := 0, cells := 0, slots := 0, locals := 0 } : Room) D cI cZ cJ [.ref (a 6 99), .int p1] (k6 a cI cZ (u0, u1, u2, u3, u4, u5)) (fun u : zSt × zSt × zSt × zSt × zSt × zSt => k6 a cI cZ u) Q1 :=
  z_ofI (by decide) rfl rfl (Nat.le_of_ble_eq_true rfl) (fun C Y hl hret => bk_X6_count_0 C Y hl hret hv)


