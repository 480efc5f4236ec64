section
variable {p : Program} {l : Launch} {e : Env} {s : State} {m : MethodId} {args : Array Value} {below : List Frame} {meth : Method} {c : Code} {H : Heap} {locs : List Loc} {Q : State → Prop} {D : va_G} {cI cZ cJ : ClassId} {A : Nat → Prop} {ls : Array Slot}
def wp_X6_isWithin_0 (Q1 : Int32 → Unit → Prop) (p0 : Int32) (p1 : Int32) (p2 : Int32) : Prop :=
  (p0 < p1 → Q1 0 ()) ∧ (¬ p0 < p1 → (p2 < p0 → Q1 0 ()) ∧ (¬ p2 < p0 → Q1 1 ()))

set_option maxHeartbeats 4000000 in
set_option maxRecDepth 100000 in
theorem bk_X6_isWithin_0 {Q1 : Int32 → Unit → Prop} {p0 : Int32} {p1 : Int32} {p2 : Int32} (C : zCx p s m args c cX6_isWithin 3 RX6 wsX6_isWithin D cI cZ cJ A) (Y : zDy D A s.heap ([] : va_W) H locs) (hl : lv_has ls 3 [(0, .int p0), (1, .int p1), (2, .int p2)]) (hret : ∀ {pc : Nat} {H : Heap} {locs : List Loc} {ls : Array Slot} {r : Int32} {u : Unit}, zDy D A s.heap ((fun _ : Unit => ([] : va_W)) u) H locs → (r = 0 ∨ r = 1) → Q1 r u → decode cX6_isWithin pc = .ok (.ireturn, 1) → W p l e ({ frames := 0, cells := 0, slots := 0, locals := 0 } : Room) s m args below meth c H locs 0 0 Q (F0 m pc ls [.int r])) (hv : wp_X6_isWithin_0 Q1 p0 p1 p2 ) : W p l e ({ frames := 0, cells := 0, slots := 0, locals := 0 } : Room) s m args below meth c H locs 0 0 Q (F0 m 0 ls []) := by
  unfold wp_X6_isWithin_0 at hv
  obtain ⟨hx, hb, hml, hown, hts, hK, hA⟩ := id C
  refine lv_iload_n hx hb dX6_isWithin_0 rfl (lv_at hl 0 rfl) ?_
  refine lv_iload_n hx hb dX6_isWithin_1 rfl (lv_at hl 1 rfl) ?_
  refine lv_icmp_lt (tgt := 14) hx hb dX6_isWithin_2 (by decide) (fun hc => ?_) (fun hc => ?_)
  · have hv := hv.1 hc
    refine lv_iconst (v := 0) hx hb dX6_isWithin_14 (by decide) ?_
    exact hret Y (Or.inl rfl) hv dX6_isWithin_15
  · have hv := hv.2 hc
    refine lv_iload_n hx hb dX6_isWithin_5 rfl (lv_at hl 0 rfl) ?_
    refine lv_iload_n hx hb dX6_isWithin_6 rfl (lv_at hl 2 rfl) ?_
    refine lv_icmp_gt (tgt := 14) hx hb dX6_isWithin_7 (by decide) (fun hc => ?_) (fun hc => ?_)
    · have hv := hv.1 hc
      refine lv_iconst (v := 0) hx hb dX6_isWithin_14 (by decide) ?_
      exact hret Y (Or.inl rfl) hv dX6_isWithin_15
    · have hv := hv.2 hc
      refine lv_iconst (v := 1) hx hb dX6_isWithin_10 (by decide) ?_
      refine lv_goto (tgt := 15) hx hb dX6_isWithin_11 (by decide) ?_
      exact hret Y (Or.inr rfl) hv dX6_isWithin_15

end
abbrev TX6_isWithin := wp_X6_isWithin_0
set_option maxHeartbeats 4000000 in
set_option maxRecDepth 100000 in
theorem c_X6_isWithin (l : Launch) {D : va_G} {cI cZ cJ : ClassId} {Q1 : Int32 → Unit → Prop} {p0 : Int32} {p1 : Int32} {p2 : Int32} (hv : wp_X6_isWithin_0 Q1 p0 p1 p2 ) : zMI l yX6_isWithin wsX6_isWithin ({ frames := 0, cells := 0, slots := 0, locals := 0 } : Room) D cI cZ cJ [.int p0, .int p1, .int p2] ([] : va_W) (fun _ : Unit => ([] : va_W)) Q1 :=
  z_ofZ (by decide) rfl rfl (Nat.le_of_ble_eq_true rfl) (fun C Y hl hret => bk_X6_isWithin_0 C Y hl hret hv)


section
variable {p : Program} {l : Launch} {e : Env} {s : State} {m : MethodId} {args : Array Value} {below : List Frame} {meth : Method} {c : Code} {H : Heap} {locs : List Loc} {Q : State → Prop} {D : va_G} {cI cZ cJ : ClassId} {A : Nat → Prop} {ls : Array Slot}
def wp_X6_isNumberOf_0 (Q1 : Int32 → Unit → Prop) (p0 : Int32) (p1 : Int32) : Prop :=
  (p0 < (0 : Int32) → Q1 0 ()) ∧ (¬ p0 < (0 : Int32) → (p1 ≤ p0 → Q1 0 ()) ∧ (¬ p1 ≤ p0 → Q1 1 ()))

set_option maxHeartbeats 4000000 in
set_option maxRecDepth 100000 in
theorem bk_X6_isNumberOf_0 {Q1 : Int32 → Unit → Prop} {p0 : Int32} {p1 : Int32} (C : zCx p s m args c cX6_isNumberOf 2 RX6 wsX6_isNumberOf D cI cZ cJ A) (Y : zDy D A s.heap ([] : va_W) H locs) (hl : lv_has ls 2 [(0, .int p0), (1, .int p1)]) (hret : ∀ {pc : Nat} {H : Heap} {locs : List Loc} {ls : Array Slot} {r : Int32} {u : Unit}, zDy D A s.heap ((fun _ : Unit => ([] : va_W)) u) H locs → (r = 0 ∨ r = 1) → Q1 r u → decode cX6_isNumberOf pc = .ok (.ireturn, 1) → W p l e ({ frames := 0, cells := 0, slots := 0, locals := 0 } : Room) s m args below meth c H locs 0 0 Q (F0 m pc ls [.int r])) (hv : wp_X6_isNumberOf_0 Q1 p0 p1 ) : W p l e ({ frames := 0, cells := 0, slots := 0, locals := 0 } : Room) s m args below meth c H locs 0 0 Q (F0 m 0 ls []) := by
  unfold wp_X6_isNumberOf_0 at hv
  obtain ⟨hx, hb, hml, hown, hts, hK, hA⟩ := id C
  refine lv_iload_n hx hb dX6_isNumberOf_0 rfl (lv_at hl 0 rfl) ?_
  refine lv_if_lt (tgt := 13) hx hb dX6_isNumberOf_1 (by decide) (fun hc => ?_) (fun hc => ?_)
  · have hv := hv.1 hc
    refine lv_iconst (v := 0) hx hb dX6_isNumberOf_13 (by decide) ?_
    exact hret Y (Or.inl rfl) hv dX6_isNumberOf_14
  · have hv := hv.2 hc
    refine lv_iload_n hx hb dX6_isNumberOf_4 rfl (lv_at hl 0 rfl) ?_
    refine lv_iload_n hx hb dX6_isNumberOf_5 rfl (lv_at hl 1 rfl) ?_
    refine lv_icmp_ge (tgt := 13) hx hb dX6_isNumberOf_6 (by decide) (fun hc => ?_) (fun hc => ?_)
    · have hv := hv.1 hc
      refine lv_iconst (v := 0) hx hb dX6_isNumberOf_13 (by decide) ?_
      exact hret Y (Or.inl rfl) hv dX6_isNumberOf_14
    · have hv := hv.2 hc
      refine lv_iconst (v := 1) hx hb dX6_isNumberOf_9 (by decide) ?_
      refine lv_goto (tgt := 14) hx hb dX6_isNumberOf_10 (by decide) ?_
      exact hret Y (Or.inr rfl) hv dX6_isNumberOf_14

end
abbrev TX6_isNumberOf := wp_X6_isNumberOf_0
set_option maxHeartbeats 4000000 in
set_option maxRecDepth 100000 in
theorem c_X6_isNumberOf (l : Launch) {D : va_G} {cI cZ cJ : ClassId} {Q1 : Int32 → Unit → Prop} {p0 : Int32} {p1 : Int32} (hv : wp_X6_isNumberOf_0 Q1 p0 p1 ) : zMI l yX6_isNumberOf wsX6_isNumberOf ({ frames := 0, cells := 0, slots := 0, locals := 0 } : Room) D cI cZ cJ [.int p0, .int p1] ([] : va_W) (fun _ : Unit => ([] : va_W)) Q1 :=
  z_ofZ (by decide) rfl rfl (Nat.le_of_ble_eq_true rfl) (fun C Y hl hret => bk_X6_isNumberOf_0 C Y hl hret hv)


section
variable {p : Program} {l : Launch} {e : Env} {s : State} {m : MethodId} {args : Array Value} {below : List Frame} {meth : Method} {c : Code} {H : Heap} {locs : List Loc} {Q : State → Prop} {D : va_G} {cI cZ cJ : ClassId} {A : Nat → Prop} {ls : Array Slot}
def wp_X6_isSpan_0 (Q1 : Int32 → Unit → Prop) (p0 : Int32) (p1 : Int32) : Prop :=
  (p0 < (0 : Int32) → Q1 0 ()) ∧ (¬ p0 < (0 : Int32) → (p1 < p0 → Q1 0 ()) ∧ (¬ p1 < p0 → ((1000 : Int32) < p1 → Q1 0 ()) ∧ (¬ (1000 : Int32) < p1 → Q1 1 ())))

set_option maxHeartbeats 4000000 in
set_option maxRecDepth 100000 in
theorem bk_X6_isSpan_0 {Q1 : Int32 → Unit → Prop} {p0 : Int32} {p1 : Int32} (C : zCx p s m args c cX6_isSpan 2 RX6 wsX6_isSpan D cI cZ cJ A) (Y : zDy D A s.heap ([] : va_W) H locs) (hl : lv_has ls 2 [(0, .int p0), (1, .int p1)]) (hret : ∀ {pc : Nat} {H : Heap} {locs : List Loc} {ls : Array Slot} {r : Int32} {u : Unit}, zDy D A s.heap ((fun _ : Unit => ([] : va_W)) u) H locs → (r = 0 ∨ r = 1) → Q1 r u → decode cX6_isSpan pc = .ok (.ireturn, 1) → W p l e ({ frames := 0, cells := 0, slots := 0, locals := 0 } : Room) s m args below meth c H locs 0 0 Q (F0 m pc ls [.int r])) (hv : wp_X6_isSpan_0 Q1 p0 p1 ) : W p l e ({ frames := 0, cells := 0, slots := 0, locals := 0 } : Room) s m args below meth c H locs 0 0 Q (F0 m 0 ls []) := by
  unfold wp_X6_isSpan_0 at hv
  obtain ⟨hx, hb, hml, hown, hts, hK, hA⟩ := id C
  refine lv_iconst (v := 0) hx hb dX6_isSpan_0 (by decide) ?_
  refine lv_iload_n hx hb dX6_isSpan_1 rfl (lv_at hl 0 rfl) ?_
  refine lv_icmp_gt (tgt := 21) hx hb dX6_isSpan_2 (by decide) (fun hc => ?_) (fun hc => ?_)
  · have hv := hv.1 hc
    refine lv_iconst (v := 0) hx hb dX6_isSpan_21 (by decide) ?_
    exact hret Y (Or.inl rfl) hv dX6_isSpan_22
  · have hv := hv.2 hc
    refine lv_iload_n hx hb dX6_isSpan_5 rfl (lv_at hl 0 rfl) ?_
    refine lv_iload_n hx hb dX6_isSpan_6 rfl (lv_at hl 1 rfl) ?_
    refine lv_icmp_gt (tgt := 21) hx hb dX6_isSpan_7 (by decide) (fun hc => ?_) (fun hc => ?_)
    · have hv := hv.1 hc
      refine lv_iconst (v := 0) hx hb dX6_isSpan_21 (by decide) ?_
      exact hret Y (Or.inl rfl) hv dX6_isSpan_22
    · have hv := hv.2 hc
      refine lv_iload_n hx hb dX6_isSpan_10 rfl (lv_at hl 1 rfl) ?_
      refine lv_sipush (v := 1000) hx hb dX6_isSpan_11 (by decide) ?_
      refine lv_icmp_gt (tgt := 21) hx hb dX6_isSpan_14 (by decide) (fun hc => ?_) (fun hc => ?_)
      · have hv := hv.1 hc
        refine lv_iconst (v := 0) hx hb dX6_isSpan_21 (by decide) ?_
        exact hret Y (Or.inl rfl) hv dX6_isSpan_22
      · have hv := hv.2 hc
        refine lv_iconst (v := 1) hx hb dX6_isSpan_17 (by decide) ?_
        refine lv_goto (tgt := 22) hx hb dX6_isSpan_18 (by decide) ?_
        exact hret Y (Or.inr rfl) hv dX6_isSpan_22

end
abbrev TX6_isSpan := wp_X6_isSpan_0
set_option maxHeartbeats 4000000 in
set_option maxRecDepth 100000 in
theorem c_X6_isSpan (l : Launch) {D : va_G} {cI cZ cJ : ClassId} {Q1 : Int32 → Unit → Prop} {p0 : Int32} {p1 : Int32} (hv : wp_X6_isSpan_0 Q1 p0 p1 ) : zMI l yX6_isSpan wsX6_isSpan ({ frames := 0, cells := 0, slots := 0, locals := 0 } : Room) D cI cZ cJ [.int p0, .int p1] ([] : va_W) (fun _ : Unit => ([] : va_W)) Q1 :=
  z_ofZ (by decide) rfl rfl (Nat.le_of_ble_eq_true rfl) (fun C Y hl hret => bk_X6_isSpan_0 C Y hl hret hv)


theorem in_X6_earth_1 : ∀ w ∈ wsX10, w ∈ wsX6_earth := by first | exact fun w h => List.mem_cons_of_mem _ (List.mem_append_right _ h) | exact fun w h => List.mem_cons_of_mem _ (List.mem_append_left _ (List.mem_append_right _ h)) | decide +kernel
theorem in_X6_earth_6 : ∀ w ∈ wsX60, w ∈ wsX6_earth := by first | exact fun w h => List.mem_cons_of_mem _ (List.mem_append_right _ h) | exact fun w h => List.mem_cons_of_mem _ (List.mem_append_left _ (List.mem_append_right _ h)) | decide +kernel
theorem fl_X6_earth_10 : Cond.fieldLink RX6 10 (TX6 0).1 (TX6 0).2.1 (TX6 0).2.2.1 ∈ wsX6_earth := by decide +kernel
theorem fl_X6_earth_66 : Cond.fieldLink RX6 66 (TX1 4).1 (TX1 4).2.1 (TX1 4).2.2.1 ∈ wsX6_earth := by decide +kernel
theorem th_X6_earth_31 : zThr cX6_earth RX6 wsX6_earth "java/lang/IllegalArgumentException" "an earth's number is none" 59 61 63 31 := ⟨by decide +kernel, by decide +kernel, by decide +kernel, by decide +kernel, by decide +kernel, by decide +kernel, by decide +kernel, dX6_earth_31, dX6_earth_34, dX6_earth_35, dX6_earth_37, dX6_earth_40⟩
theorem th_X6_earth_53 : zThr cX6_earth RX6 wsX6_earth "java/lang/UnsupportedOperationException" "there are 6 earths" 70 72 74 53 := ⟨by decide +kernel, by decide +kernel, by decide +kernel, by decide +kernel, by decide +kernel, by decide +kernel, by decide +kernel, dX6_earth_53, dX6_earth_56, dX6_earth_57, dX6_earth_59, dX6_earth_62⟩
section
variable {p : Program} {l : Launch} {e : Env} {s : State} {m : MethodId} {args : Array Value} {below : List Frame} {meth : Method} {c : Code} {H : Heap} {locs : List Loc} {Q : State → Prop} {D : va_G} {cI cZ cJ : ClassId} {A : Nat → Prop} {ls : Array Slot}
def wp_X6_earth_31 (Q1 : Int32 → (zSt × zSt × zSt × zSt × zSt × zSt) → Prop) (QX : String → (zSt × zSt × zSt × zSt × zSt × zSt) → Prop) (u0 : zSt) (u1 : zSt) (u2 : zSt) (u3 : zSt) (u4 : zSt) (u5 : zSt) : Prop :=
  QX "java/lang/IllegalArgumentException" (u0, u1, u2, u3, u4, u5)

set_option maxHeartbeats 4000000 in
set_option maxRecDepth 100000 in
theorem bk_X6_earth_31 {a : Nat → Nat → Nat} {Q1 : Int32 → (zSt × zSt × zSt × zSt × zSt × zSt) → Prop} {QX : String → (zSt × zSt × zSt × zSt × zSt × zSt) → Prop} {u0 : zSt} {u1 : zSt} {u2 : zSt} {u3 : zSt} {u4 : zSt} {u5 : zSt} (C : zCx p s m args c cX6_earth 5 RX6 wsX6_earth D cI cZ cJ A) (Y : zDy D A s.heap (k6 a cI cZ (u0, u1, u2, u3, u4, u5)) H locs) (hl : lv_has ls 5 []) (hret : ∀ {pc : Nat} {H : Heap} {locs : List Loc} {ls : Array Slot} {r : Int32} {u : zSt × zSt × zSt × zSt × zSt × zSt}, zDy D A s.heap ((fun u : zSt × zSt × zSt × zSt × zSt × zSt => k6 a cI cZ u) u) H locs → Q1 r u → decode cX6_earth pc = .ok (.ireturn, 1) → W p l e ({ frames := 6, cells := 1, slots := 6, locals := 90 } : Room) s m args below meth c H locs 0 0 Q (F0 m pc ls [.int r])) (hthr : ∀ {pc : Nat} {H : Heap} {locs : List Loc} {ls : Array Slot} {rest : List Value} {u : zSt × zSt × zSt × zSt × zSt × zSt} {E text : String} {ik is ic : Nat}, zDy D A s.heap ((fun u : zSt × zSt × zSt × zSt × zSt × zSt => k6 a cI cZ u) u) H locs → QX E u → zThr cX6_earth RX6 wsX6_earth E text ik is ic pc → ls.size = 5 → (rest.map fun v => v.category).sum ≤ 8 → W p l e ({ frames := 6, cells := 1, slots := 6, locals := 90 } : Room) s m args below meth c H locs 0 0 Q (F0 m pc ls rest)) (hv : wp_X6_earth_31 Q1 QX  u0 u1 u2 u3 u4 u5) : W p l e ({ frames := 6, cells := 1, slots := 6, locals := 90 } : Room) s m args below meth c H locs 0 0 Q (F0 m 31 ls []) := by
  unfold wp_X6_earth_31 at hv
  obtain ⟨hx, hb, hml, hown, hts, hK, hA⟩ := id C
  exact hthr Y hv th_X6_earth_31 hl.1 (Nat.le_of_ble_eq_true rfl)

def wp_X6_earth_0 (Q1 : Int32 → (zSt × zSt × zSt × zSt × zSt × zSt) → Prop) (QX : String → (zSt × zSt × zSt × zSt × zSt × zSt) → Prop) (p1 : Int32) (p2 : Int32) (p3 : Int32) (p4 : Int32) (u0 : zSt) (u1 : zSt) (u2 : zSt) (u3 : zSt) (u4 : zSt) (u5 : zSt) : Prop :=
  TX6_isSpan (fun (r_1 : Int32) (_ : Unit) => (r_1 = (0 : Int32) → wp_X6_earth_31 Q1 QX  u0 u1 u2 u3 u4 u5) ∧ (¬ r_1 = (0 : Int32) → TX6_isWithin (fun (r_2 : Int32) (_ : Unit) => (r_2 = (0 : Int32) → wp_X6_earth_31 Q1 QX  u0 u1 u2 u3 u4 u5) ∧ (¬ r_2 = (0 : Int32) → TX6_isWithin (fun (r_3 : Int32) (_ : Unit) => (r_3 = (0 : Int32) → wp_X6_earth_31 Q1 QX  u0 u1 u2 u3 u4 u5) ∧ (¬ r_3 = (0 : Int32) → ((u1.1 4) < (6 : Int32) → TX1_add (fun (r_5 : Int32) (u1_4 : zSt) => Q1 r_5 (u0, u1_4, u2, u3, u4, u5)) p1 p2 p3 p4 u1) ∧ (¬ (u1.1 4) < (6 : Int32) → QX "java/lang/UnsupportedOperationException" (u0, u1, u2, u3, u4, u5)))) p4 0 1000 )) p3 1 1000 )) p1 p2 

set_option maxHeartbeats 4000000 in
set_option maxRecDepth 100000 in
theorem bk_X6_earth_0 {a : Nat → Nat → Nat} {Q1 : Int32 → (zSt × zSt × zSt × zSt × zSt × zSt) → Prop} {QX : String → (zSt × zSt × zSt × zSt × zSt × zSt) → Prop} {p1 : Int32} {p2 : Int32} {p3 : Int32} {p4 : Int32} {u0 : zSt} {u1 : zSt} {u2 : zSt} {u3 : zSt} {u4 : zSt} {u5 : zSt} (C : zCx p s m args c cX6_earth 5 RX6 wsX6_earth D cI cZ cJ A) (Y : zDy D A s.heap (k6 a cI cZ (u0, u1, u2, u3, u4, u5)) H locs) (hl : lv_has ls 5 [(0, .ref (a 6 99)), (1, .int p1), (2, .int p2), (3, .int p3), (4, .int p4)]) (hret : ∀ {pc : Nat} {H : Heap} {locs : List Loc} {ls : Array Slot} {r : Int32} {u : zSt × zSt × zSt × zSt × zSt × zSt}, zDy D A s.heap ((fun u : zSt × zSt × zSt × zSt × zSt × zSt => k6 a cI cZ u) u) H locs → Q1 r u → decode cX6_earth pc = .ok (.ireturn, 1) → W p l e ({ frames := 6, cells := 1, slots := 6, locals := 90 } : Room) s m args below meth c H locs 0 0 Q (F0 m pc ls [.int r])) (hthr : ∀ {pc : Nat} {H : Heap} {locs : List Loc} {ls : Array Slot} {rest : List Value} {u : zSt × zSt × zSt × zSt × zSt × zSt} {E text : String} {ik is ic : Nat}, zDy D A s.heap ((fun u : zSt × zSt × zSt × zSt × zSt × zSt => k6 a cI cZ u) u) H locs → QX E u → zThr cX6_earth RX6 wsX6_earth E text ik is ic pc → ls.size = 5 → (rest.map fun v => v.category).sum ≤ 8 → W p l e ({ frames := 6, cells := 1, slots := 6, locals := 90 } : Room) s m args below meth c H locs 0 0 Q (F0 m pc ls rest)) (hv : wp_X6_earth_0 Q1 QX p1 p2 p3 p4 u0 u1 u2 u3 u4 u5) : W p l e ({ frames := 6, cells := 1, slots := 6, locals := 90 } : Room) s m args below meth c H locs 0 0 Q (F0 m 0 ls []) := by
  unfold wp_X6_earth_0 at hv
  obtain ⟨hx, hb, hml, hown, hts, hK, hA⟩ := id C
  refine lv_iload_n hx hb dX6_earth_0 rfl (lv_at hl 1 rfl) ?_
  refine lv_iload_n hx hb dX6_earth_1 rfl (lv_at hl 2 rfl) ?_
  refine z_callSi C Y (c_X6_isSpan l hv) (zFr.nil _) (va_cwS 2 hts gX6_earth_X6_isSpan rfl rfl rfl (by decide +kernel) ⟨(Nat.le_of_ble_eq_true rfl), (Nat.le_of_ble_eq_true rfl)⟩) rfl hl.1 rfl (Nat.le_of_ble_eq_true rfl) dX6_earth_2 ⟨Nat.zero_le _, Nat.zero_le _⟩ (fun r_1 _ H locs Y hv => ?_)
  refine lv_if_eq (tgt := 31) hx hb dX6_earth_5 (by decide) (fun hc => ?_) (fun hc => ?_)
  · have hv := hv.1 hc
    exact bk_X6_earth_31 C Y (lv_sub hl [] rfl) hret hthr hv
  · have hv := hv.2 hc
    refine lv_iload_n hx hb dX6_earth_8 rfl (lv_at hl 3 rfl) ?_
    refine lv_iconst (v := 1) hx hb dX6_earth_9 (by decide) ?_
    refine lv_sipush (v := 1000) hx hb dX6_earth_10 (by decide) ?_
    refine z_callSi C Y (c_X6_isWithin l hv) (zFr.nil _) (va_cwS 3 hts gX6_earth_X6_isWithin rfl rfl rfl (by decide +kernel) ⟨(Nat.le_of_ble_eq_true rfl), (Nat.le_of_ble_eq_true rfl)⟩) rfl hl.1 rfl (Nat.le_of_ble_eq_true rfl) dX6_earth_13 ⟨Nat.zero_le _, Nat.zero_le _⟩ (fun r_2 _ H locs Y hv => ?_)
    refine lv_if_eq (tgt := 31) hx hb dX6_earth_16 (by decide) (fun hc => ?_) (fun hc => ?_)
    · have hv := hv.1 hc
      exact bk_X6_earth_31 C Y (lv_sub hl [] rfl) hret hthr hv
    · have hv := hv.2 hc
      refine lv_iload hx hb dX6_earth_19 (lv_at hl 4 rfl) ?_
      refine lv_iconst (v := 0) hx hb dX6_earth_21 (by decide) ?_
      refine lv_sipush (v := 1000) hx hb dX6_earth_22 (by decide) ?_
      refine z_callSi C Y (c_X6_isWithin l hv) (zFr.nil _) (va_cwS 3 hts gX6_earth_X6_isWithin rfl rfl rfl (by decide +kernel) ⟨(Nat.le_of_ble_eq_true rfl), (Nat.le_of_ble_eq_true rfl)⟩) rfl hl.1 rfl (Nat.le_of_ble_eq_true rfl) dX6_earth_25 ⟨Nat.zero_le _, Nat.zero_le _⟩ (fun r_3 _ H locs Y hv => ?_)
      refine lv_if_ne (tgt := 41) hx hb dX6_earth_28 (by decide) (fun hc => ?_) (fun hc => ?_)
      · have hv := hv.2 hc
        refine lv_aload_n hx hb dX6_earth_41 rfl (lv_at hl 0 rfl) ?_
        refine z_get C Y (Cn := RX6) (T := TX6) (N := 6) in_X6_earth_6 rfl (ge6_6 ..) 0 (by decide) fl_X6_earth_10 rfl dX6_earth_42 ?_
        refine z_get C Y (Cn := RX1) (T := TX1) (N := 16) in_X6_earth_1 rfl (ge6_1 ..) 4 (by decide) fl_X6_earth_66 rfl dX6_earth_45 ?_
        refine lv_bipush (v := 6) hx hb dX6_earth_48 (by decide) ?_
        refine lv_icmp_lt (tgt := 63) hx hb dX6_earth_50 (by decide) (fun hc => ?_) (fun hc => ?_)
        · have hv := hv.1 hc
          refine lv_aload_n hx hb dX6_earth_63 rfl (lv_at hl 0 rfl) ?_
          refine z_get C Y (Cn := RX6) (T := TX6) (N := 6) in_X6_earth_6 rfl (ge6_6 ..) 0 (by decide) fl_X6_earth_10 rfl dX6_earth_64 ?_
          refine lv_iload_n hx hb dX6_earth_67 rfl (lv_at hl 1 rfl) ?_
          refine lv_iload_n hx hb dX6_earth_68 rfl (lv_at hl 2 rfl) ?_
          refine lv_iload_n hx hb dX6_earth_69 rfl (lv_at hl 3 rfl) ?_
          refine lv_iload hx hb dX6_earth_70 (lv_at hl 4 rfl) ?_
          refine z_callVi C Y (c_X1_add l hv) (fr6_1 ..) (cwV 4 hts gX6_earth_X1_add rfl rfl rfl (by decide +kernel) ⟨(Nat.le_of_ble_eq_true rfl), (Nat.le_of_ble_eq_true rfl)⟩) (ge1_1 ..) rfl rfl rfl hl.1 rfl (Nat.le_of_ble_eq_true rfl) dX6_earth_72 ⟨Nat.zero_le _, Nat.zero_le _⟩ (fun r_5 u1_4 H locs Y hv => ?_)
          exact hret Y hv dX6_earth_75
        · have hv := hv.2 hc
          exact hthr Y hv th_X6_earth_53 hl.1 (Nat.le_of_ble_eq_true rfl)
      · have hv := hv.1 hc
        exact bk_X6_earth_31 C Y (lv_sub hl [] rfl) hret hthr hv

end
abbrev TX6_earth := wp_X6_earth_0
set_option maxHeartbeats 4000000 in
set_option maxRecDepth 100000 in
theorem c_X6_earth (l : Launch) {D : va_G} {cI cZ cJ : ClassId} {a : Nat → Nat → Nat} (hlt : l.stackTraces = false) {Q1 : Int32 → (zSt × zSt × zSt × zSt × zSt × zSt) → Prop} {QX : String → (zSt × zSt × zSt × zSt × zSt × zSt) → Prop} {p1 : Int32} {p2 : Int32} {p3 : Int32} {p4 : Int32} {u0 : zSt} {u1 : zSt} {u2 : zSt} {u3 : zSt} {u4 : zSt} {u5 : zSt} (hv : wp_X6_earth_0 Q1 QX p1 p2 p3 p4 u0 u1 u2 u3 u4 u5) : zXI l yX6_earth wsX6_earth ({ frames := 6, cells := 1, slots := 6, locals := 90 } : Room) D cI cZ cJ [.ref (a 6 99), .int p1, .int p2, .int p3, .int p4] (k6 a cI cZ (u0, u1, u2, u3, u4, u5)) (fun u : zSt × zSt × zSt × zSt × zSt × zSt => k6 a cI cZ u) Q1 QX :=
  z_ofXI hlt ⟨Nat.le_of_ble_eq_true rfl, Nat.le_of_ble_eq_true rfl, Nat.le_of_ble_eq_true rfl, Nat.le_of_ble_eq_true rfl⟩ (by decide) rfl rfl (Nat.le_of_ble_eq_true rfl) (fun C Y hl hret hthr => bk_X6_earth_0 C Y hl hret hthr hv)


theorem in_X6_bring_1 : ∀ w ∈ wsX10, w ∈ wsX6_bring := by first | exact fun w h => List.mem_cons_of_mem _ (List.mem_append_right _ h) | exact fun w h => List.mem_cons_of_mem _ (List.mem_append_left _ (List.mem_append_right _ h)) | decide +kernel
theorem in_X6_bring_6 : ∀ w ∈ wsX60, w ∈ wsX6_bring := by first | exact fun w h => List.mem_cons_of_mem _ (List.mem_append_right _ h) | exact fun w h => List.mem_cons_of_mem _ (List.mem_append_left _ (List.mem_append_right _ h)) | decide +kernel
theorem fl_X6_bring_10 : Cond.fieldLink RX6 10 (TX6 0).1 (TX6 0).2.1 (TX6 0).2.2.1 ∈ wsX6_bring := by decide +kernel
theorem fl_X6_bring_66 : Cond.fieldLink RX6 66 (TX1 4).1 (TX1 4).2.1 (TX1 4).2.2.1 ∈ wsX6_bring := by decide +kernel
theorem fl_X6_bring_87 : Cond.fieldLink RX6 87 (TX1 3).1 (TX1 3).2.1 (TX1 3).2.2.1 ∈ wsX6_bring := by decide +kernel
theorem th_X6_bring_14 : zThr cX6_bring RX6 wsX6_bring "java/lang/IndexOutOfBoundsException" "no such earth" 82 84 86 14 := ⟨by decide +kernel, by decide +kernel, by decide +kernel, by decide +kernel, by decide +kernel, by decide +kernel, by decide +kernel, dX6_bring_14, dX6_bring_17, dX6_bring_18, dX6_bring_20, dX6_bring_23⟩
theorem th_X6_bring_52 : zThr cX6_bring RX6 wsX6_bring "java/lang/IllegalArgumentException" "parts are not 0 to 1000, or too many" 59 91 63 52 := ⟨by decide +kernel, by decide +kernel, by decide +kernel, by decide +kernel, by decide +kernel, by decide +kernel, by decide +kernel, dX6_bring_52, dX6_bring_55, dX6_bring_56, dX6_bring_58, dX6_bring_61⟩
section
variable {p : Program} {l : Launch} {e : Env} {s : State} {m : MethodId} {args : Array Value} {below : List Frame} {meth : Method} {c : Code} {H : Heap} {locs : List Loc} {Q : State → Prop} {D : va_G} {cI cZ cJ : ClassId} {A : Nat → Prop} {ls : Array Slot}
def wp_X6_bring_52 (Q1 : Int32 → (zSt × zSt × zSt × zSt × zSt × zSt) → Prop) (QX : String → (zSt × zSt × zSt × zSt × zSt × zSt) → Prop) (u0 : zSt) (u1 : zSt) (u2 : zSt) (u3 : zSt) (u4 : zSt) (u5 : zSt) : Prop :=
  QX "java/lang/IllegalArgumentException" (u0, u1, u2, u3, u4, u5)

set_option maxHeartbeats 4000000 in
set_option maxRecDepth 100000 in
theorem bk_X6_bring_52 {a : Nat → Nat → Nat} {Q1 : Int32 → (zSt × zSt × zSt × zSt × zSt × zSt) → Prop} {QX : String → (zSt × zSt × zSt × zSt × zSt × zSt) → Prop} {u0 : zSt} {u1 : zSt} {u2 : zSt} {u3 : zSt} {u4 : zSt} {u5 : zSt} (C : zCx p s m args c cX6_bring 3 RX6 wsX6_bring D cI cZ cJ A) (Y : zDy D A s.heap (k6 a cI cZ (u0, u1, u2, u3, u4, u5)) H locs) (hl : lv_has ls 3 []) (hret : ∀ {pc : Nat} {H : Heap} {locs : List Loc} {ls : Array Slot} {r : Int32} {u : zSt × zSt × zSt × zSt × zSt × zSt}, zDy D A s.heap ((fun u : zSt × zSt × zSt × zSt × zSt × zSt => k6 a cI cZ u) u) H locs → Q1 r u → decode cX6_bring pc = .ok (.ireturn, 1) → W p l e ({ frames := 6, cells := 1, slots := 6, locals := 90 } : Room) s m args below meth c H locs 0 0 Q (F0 m pc ls [.int r])) (hthr : ∀ {pc : Nat} {H : Heap} {locs : List Loc} {ls : Array Slot} {rest : List Value} {u : zSt × zSt × zSt × zSt × zSt × zSt} {E text : String} {ik is ic : Nat}, zDy D A s.heap ((fun u : zSt × zSt × zSt × zSt × zSt × zSt => k6 a cI cZ u) u) H locs → QX E u → zThr cX6_bring RX6 wsX6_bring E text ik is ic pc → ls.size = 3 → (rest.map fun v => v.category).sum ≤ 8 → W p l e ({ frames := 6, cells := 1, slots := 6, locals := 90 } : Room) s m args below meth c H locs 0 0 Q (F0 m pc ls rest)) (hv : wp_X6_bring_52 Q1 QX  u0 u1 u2 u3 u4 u5) : W p l e ({ frames := 6, cells := 1, slots := 6, locals := 90 } : Room) s m args below meth c H locs 0 0 Q (F0 m 52 ls []) := by
  unfold wp_X6_bring_52 at hv
  obtain ⟨hx, hb, hml, hown, hts, hK, hA⟩ := id C
  exact hthr Y hv th_X6_bring_52 hl.1 (Nat.le_of_ble_eq_true rfl)

def wp_X6_bring_0 (Q1 : Int32 → (zSt × zSt × zSt × zSt × zSt × zSt) → Prop) (QX : String → (zSt × zSt × zSt × zSt × zSt × zSt) → Prop) (p1 : Int32) (p2 : Int32) (u0 : zSt) (u1 : zSt) (u2 : zSt) (u3 : zSt) (u4 : zSt) (u5 : zSt) : Prop :=
  TX6_isNumberOf (fun (r_1 : Int32) (_ : Unit) => (r_1 = (0 : Int32) → QX "java/lang/IndexOutOfBoundsException" (u0, u1, u2, u3, u4, u5)) ∧ (¬ r_1 = (0 : Int32) → TX6_isWithin (fun (r_2 : Int32) (_ : Unit) => (r_2 = (0 : Int32) → wp_X6_bring_52 Q1 QX  u0 u1 u2 u3 u4 u5) ∧ (¬ r_2 = (0 : Int32) → vp_in p1 6 ∧ ((((u1.2 3 p1.toNatClampNeg) + p2) ≤ (1000 : Int32) → vp_in p1 6 ∧ (vp_in p1 6 ∧ (∀ u1_3 : zSt, u1_3 = zA u1 3 (upd (u1.2 3) p1.toNatClampNeg ((u1.2 3 p1.toNatClampNeg) + p2)) → vp_in p1 6 ∧ (Q1 (u1_3.2 3 p1.toNatClampNeg) (u0, u1_3, u2, u3, u4, u5))))) ∧ (¬ ((u1.2 3 p1.toNatClampNeg) + p2) ≤ (1000 : Int32) → wp_X6_bring_52 Q1 QX  u0 u1 u2 u3 u4 u5)))) p2 0 1000 )) p1 (u1.1 4) 

set_option maxHeartbeats 4000000 in
set_option maxRecDepth 100000 in
theorem bk_X6_bring_0 {a : Nat → Nat → Nat} {Q1 : Int32 → (zSt × zSt × zSt × zSt × zSt × zSt) → Prop} {QX : String → (zSt × zSt × zSt × zSt × zSt × zSt) → Prop} {p1 : Int32} {p2 : Int32} {u0 : zSt} {u1 : zSt} {u2 : zSt} {u3 : zSt} {u4 : zSt} {u5 : zSt} (C : zCx p s m args c cX6_bring 3 RX6 wsX6_bring D cI cZ cJ A) (Y : zDy D A s.heap (k6 a cI cZ (u0, u1, u2, u3, u4, u5)) H locs) (hl : lv_has ls 3 [(0, .ref (a 6 99)), (1, .int p1), (2, .int p2)]) (hret : ∀ {pc : Nat} {H : Heap} {locs : List Loc} {ls : Array Slot} {r : Int32} {u : zSt × zSt × zSt × zSt × zSt × zSt}, zDy D A s.heap ((fun u : zSt × zSt × zSt × zSt × zSt × zSt => k6 a cI cZ u) u) H locs → Q1 r u → decode cX6_bring pc = .ok (.ireturn, 1) → W p l e ({ frames := 6, cells := 1, slots := 6, locals := 90 } : Room) s m args below meth c H locs 0 0 Q (F0 m pc ls [.int r])) (hthr : ∀ {pc : Nat} {H : Heap} {locs : List Loc} {ls : Array Slot} {rest : List Value} {u : zSt × zSt × zSt × zSt × zSt × zSt} {E text : String} {ik is ic : Nat}, zDy D A s.heap ((fun u : zSt × zSt × zSt × zSt × zSt × zSt => k6 a cI cZ u) u) H locs → QX E u → zThr cX6_bring RX6 wsX6_bring E text ik is ic pc → ls.size = 3 → (rest.map fun v => v.category).sum ≤ 8 → W p l e ({ frames := 6, cells := 1, slots := 6, locals := 90 } : Room) s m args below meth c H locs 0 0 Q (F0 m pc ls rest)) (hv : wp_X6_bring_0 Q1 QX p1 p2 u0 u1 u2 u3 u4 u5) : W p l e ({ frames := 6, cells := 1, slots := 6, locals := 90 } : Room) s m args below meth c H locs 0 0 Q (F0 m 0 ls []) := by
  unfold wp_X6_bring_0 at hv
  obtain ⟨hx, hb, hml, hown, hts, hK, hA⟩ := id C
  refine lv_iload_n hx hb dX6_bring_0 rfl (lv_at hl 1 rfl) ?_
  refine lv_aload_n hx hb dX6_bring_1 rfl (lv_at hl 0 rfl) ?_
  refine z_get C Y (Cn := RX6) (T := TX6) (N := 6) in_X6_bring_6 rfl (ge6_6 ..) 0 (by decide) fl_X6_bring_10 rfl dX6_bring_2 ?_
  refine z_get C Y (Cn := RX1) (T := TX1) (N := 16) in_X6_bring_1 rfl (ge6_1 ..) 4 (by decide) fl_X6_bring_66 rfl dX6_bring_5 ?_
  refine z_callSi C Y (c_X6_isNumberOf l hv) (zFr.nil _) (va_cwS 2 hts gX6_bring_X6_isNumberOf rfl rfl rfl (by decide +kernel) ⟨(Nat.le_of_ble_eq_true rfl), (Nat.le_of_ble_eq_true rfl)⟩) rfl hl.1 rfl (Nat.le_of_ble_eq_true rfl) dX6_bring_8 ⟨Nat.zero_le _, Nat.zero_le _⟩ (fun r_1 _ H locs Y hv => ?_)
  refine lv_if_ne (tgt := 24) hx hb dX6_bring_11 (by decide) (fun hc => ?_) (fun hc => ?_)
  · have hv := hv.2 hc
    refine lv_iload_n hx hb dX6_bring_24 rfl (lv_at hl 2 rfl) ?_
    refine lv_iconst (v := 0) hx hb dX6_bring_25 (by decide) ?_
    refine lv_sipush (v := 1000) hx hb dX6_bring_26 (by decide) ?_
    refine z_callSi C Y (c_X6_isWithin l hv) (zFr.nil _) (va_cwS 3 hts gX6_bring_X6_isWithin rfl rfl rfl (by decide +kernel) ⟨(Nat.le_of_ble_eq_true rfl), (Nat.le_of_ble_eq_true rfl)⟩) rfl hl.1 rfl (Nat.le_of_ble_eq_true rfl) dX6_bring_29 ⟨Nat.zero_le _, Nat.zero_le _⟩ (fun r_2 _ H locs Y hv => ?_)
    refine lv_if_eq (tgt := 52) hx hb dX6_bring_32 (by decide) (fun hc => ?_) (fun hc => ?_)
    · have hv := hv.1 hc
      exact bk_X6_bring_52 C Y (lv_sub hl [] rfl) hret hthr hv
    · have hv := hv.2 hc
      refine lv_aload_n hx hb dX6_bring_35 rfl (lv_at hl 0 rfl) ?_
      refine z_get C Y (Cn := RX6) (T := TX6) (N := 6) in_X6_bring_6 rfl (ge6_6 ..) 0 (by decide) fl_X6_bring_10 rfl dX6_bring_36 ?_
      refine z_get C Y (Cn := RX1) (T := TX1) (N := 16) in_X6_bring_1 rfl (ge6_1 ..) 3 (by decide) fl_X6_bring_87 rfl dX6_bring_39 ?_
      refine lv_iload_n hx hb dX6_bring_42 rfl (lv_at hl 1 rfl) ?_
      obtain ⟨hi, hv⟩ := hv
      refine z_ldI C Y (pa6_1_3 ..) hi dX6_bring_43 ?_
      refine lv_iload_n hx hb dX6_bring_44 rfl (lv_at hl 2 rfl) ?_
      refine lv_iadd hx hb dX6_bring_45 ?_
      refine lv_sipush (v := 1000) hx hb dX6_bring_46 (by decide) ?_
      refine lv_icmp_le (tgt := 62) hx hb dX6_bring_49 (by decide) (fun hc => ?_) (fun hc => ?_)
      · have hv := hv.1 hc
        refine lv_aload_n hx hb dX6_bring_62 rfl (lv_at hl 0 rfl) ?_
        refine z_get C Y (Cn := RX6) (T := TX6) (N := 6) in_X6_bring_6 rfl (ge6_6 ..) 0 (by decide) fl_X6_bring_10 rfl dX6_bring_63 ?_
        refine z_get C Y (Cn := RX1) (T := TX1) (N := 16) in_X6_bring_1 rfl (ge6_1 ..) 3 (by decide) fl_X6_bring_87 rfl dX6_bring_66 ?_
        refine lv_iload_n hx hb dX6_bring_69 rfl (lv_at hl 1 rfl) ?_
        refine lv_dup2_11 hx hb dX6_bring_70 rfl rfl ?_
        obtain ⟨hi, hv⟩ := hv
        refine z_ldI C Y (pa6_1_3 ..) hi dX6_bring_71 ?_
        refine lv_iload_n hx hb dX6_bring_72 rfl (lv_at hl 2 rfl) ?_
        refine lv_iadd hx hb dX6_bring_73 ?_
        obtain ⟨hi, hv⟩ := hv
        refine z_stI C Y (pa6_1_3 ..) (sa6_1_3 ..) hi dX6_bring_74 (fun H locs Y => ?_)
        obtain ⟨u1_3, eu1_3, Y, hv⟩ := z_nm (kf := fun z => (k6 a cI cZ (u0, z, u2, u3, u4, u5))) Y hv
        refine lv_aload_n hx hb dX6_bring_75 rfl (lv_at hl 0 rfl) ?_
        refine z_get C Y (Cn := RX6) (T := TX6) (N := 6) in_X6_bring_6 rfl (ge6_6 ..) 0 (by decide) fl_X6_bring_10 rfl dX6_bring_76 ?_
        refine z_get C Y (Cn := RX1) (T := TX1) (N := 16) in_X6_bring_1 rfl (ge6_1 ..) 3 (by decide) fl_X6_bring_87 rfl dX6_bring_79 ?_
        refine lv_iload_n hx hb dX6_bring_82 rfl (lv_at hl 1 rfl) ?_
        obtain ⟨hi, hv⟩ := hv
        refine z_ldI C Y (pa6_1_3 ..) hi dX6_bring_83 ?_
        exact hret Y hv dX6_bring_84
      · have hv := hv.2 hc
        exact bk_X6_bring_52 C Y (lv_sub hl [] rfl) hret hthr hv
  · have hv := hv.1 hc
    exact hthr Y hv th_X6_bring_14 hl.1 (Nat.le_of_ble_eq_true rfl)

end
abbrev TX6_bring := wp_X6_bring_0
set_option maxHeartbeats 4000000 in
set_option maxRecDepth 100000 in
theorem c_X6_bring (l : Launch) {D : va_G} {cI cZ cJ : ClassId} {a : Nat → Nat → Nat} (hlt : l.stackTraces = false) {Q1 : Int32 → (zSt × zSt × zSt × zSt × zSt × zSt) → Prop} {QX : String → (zSt × zSt × zSt × zSt × zSt × zSt) → Prop} {p1 : Int32} {p2 : Int32} {u0 : zSt} {u1 : zSt} {u2 : zSt} {u3 : zSt} {u4 : zSt} {u5 : zSt} (hv : wp_X6_bring_0 Q1 QX p1 p2 u0 u1 u2 u3 u4 u5) : zXI l yX6_bring wsX6_bring ({ frames := 6, cells := 1, slots := 6, locals := 90 } : Room) D cI cZ cJ [.ref (a 6 99), .int p1, .int p2] (k6 a cI cZ (u0, u1, u2, u3, u4, u5)) (fun u : zSt × zSt × zSt × zSt × zSt × zSt => k6 a cI cZ u) Q1 QX :=
  z_ofXI hlt ⟨Nat.le_of_ble_eq_true rfl, Nat.le_of_ble_eq_true rfl, Nat.le_of_ble_eq_true rfl, Nat.le_of_ble_eq_true rfl⟩ (by decide) rfl rfl (Nat.le_of_ble_eq_true rfl) (fun C Y hl hret hthr => bk_X6_bring_0 C Y hl hret hthr hv)


theorem in_X6_blend_1 : ∀ w ∈ wsX10, w ∈ wsX6_blend := by first | exact fun w h => List.mem_cons_of_mem _ (List.mem_append_right _ h) | exact fun w h => List.mem_cons_of_mem _ (List.mem_append_left _ (List.mem_append_right _ h)) | decide +kernel
theorem in_X6_blend_6 : ∀ w ∈ wsX60, w ∈ wsX6_blend := by first | exact fun w h => List.mem_cons_of_mem _ (List.mem_append_right _ h) | exact fun w h => List.mem_cons_of_mem _ (List.mem_append_left _ (List.mem_append_right _ h)) | decide +kernel
theorem fl_X6_blend_10 : Cond.fieldLink RX6 10 (TX6 0).1 (TX6 0).2.1 (TX6 0).2.2.1 ∈ wsX6_blend := by decide +kernel
theorem fl_X6_blend_99 : Cond.fieldLink RX6 99 (TX1 6).1 (TX1 6).2.1 (TX1 6).2.2.1 ∈ wsX6_blend := by decide +kernel
theorem th_X6_blend_8 : zThr cX6_blend RX6 wsX6_blend "java/lang/IllegalArgumentException" "not a grade" 59 93 63 8 := ⟨by decide +kernel, by decide +kernel, by decide +kernel, by decide +kernel, by decide +kernel, by decide +kernel, by decide +kernel, dX6_blend_8, dX6_blend_11, dX6_blend_12, dX6_blend_14, dX6_blend_17⟩
section
variable {p : Program} {l : Launch} {e : Env} {s : State} {m : MethodId} {args : Array Value} {below : List Frame} {meth : Method} {c : Code} {H : Heap} {locs : List Loc} {Q : State → Prop} {D : va_G} {cI cZ cJ : ClassId} {A : Nat → Prop} {ls : Array Slot}
def wp_X6_blend_0 (Q1 : Int32 → (zSt × zSt × zSt × zSt × zSt × zSt) → Prop) (QX : String → (zSt × zSt × zSt × zSt × zSt × zSt) → Prop) (p1 : Int32) (p2 : Int32) (u0 : zSt) (u1 : zSt) (u2 : zSt) (u3 : zSt) (u4 : zSt) (u5 : zSt) : Prop :=
  TX6_isSpan (fun (r_1 : Int32) (_ : Unit) => (r_1 = (0 : Int32) → QX "java/lang/IllegalArgumentException" (u0, u1, u2, u3, u4, u5)) ∧ (¬ r_1 = (0 : Int32) → TX1_seek (fun (u1_2 : zSt) => Q1 (u1_2.1 6) (u0, u1_2, u2, u3, u4, u5)) p1 p2 u1)) p1 p2 

set_option maxHeartbeats 4000000 in
set_option maxRecDepth 100000 in
theorem bk_X6_blend_0 {a : Nat → Nat → Nat} {Q1 : Int32 → (zSt × zSt × zSt × zSt × zSt × zSt) → Prop} {QX : String → (zSt × zSt × zSt × zSt × zSt × zSt) → Prop} {p1 : Int32} {p2 : Int32} {u0 : zSt} {u1 : zSt} {u2 : zSt} {u3 : zSt} {u4 : zSt} {u5 : zSt} (C : zCx p s m args c cX6_blend 3 RX6 wsX6_blend D cI cZ cJ A) (Y : zDy D A s.heap (k6 a cI cZ (u0, u1, u2, u3, u4, u5)) H locs) (hl : lv_has ls 3 [(0, .ref (a 6 99)), (1, .int p1), (2, .int p2)]) (hret : ∀ {pc : Nat} {H : Heap} {locs : List Loc} {ls : Array Slot} {r : Int32} {u : zSt × zSt × zSt × zSt × zSt × zSt}, zDy D A s.heap ((fun u : zSt × zSt × zSt × zSt × zSt × zSt => k6 a cI cZ u) u) H locs → Q1 r u → decode cX6_blend pc = .ok (.ireturn, 1) → W p l e ({ frames := 20, cells := 1, slots := 6, locals := 587 } : Room) s m args below meth c H locs 0 0 Q (F0 m pc ls [.int r])) (hthr : ∀ {pc : Nat} {H : Heap} {locs : List Loc} {ls : Array Slot} {rest : List Value} {u : zSt × zSt × zSt × zSt × zSt × zSt} {E text : String} {ik is ic : Nat}, zDy D A s.heap ((fun u : zSt × zSt × zSt × zSt × zSt × zSt => k6 a cI cZ u) u) H locs → QX E u → zThr cX6_blend RX6 wsX6_blend E text ik is ic pc → ls.size = 3 → (rest.map fun v => v.category).sum ≤ 8 → W p l e ({ frames := 20, cells := 1, slots := 6, locals := 587 } : Room) s m args below meth c H locs 0 0 Q (F0 m pc ls rest)) (hv : wp_X6_blend_0 Q1 QX p1 p2 u0 u1 u2 u3 u4 u5) : W p l e ({ frames := 20, cells := 1, slots := 6, locals := 587 } : Room) s m args below meth c H locs 0 0 Q (F0 m 0 ls []) := by
  unfold wp_X6_blend_0 at hv
  obtain ⟨hx, hb, hml, hown, hts, hK, hA⟩ := id C
  refine lv_iload_n hx hb dX6_blend_0 rfl (lv_at hl 1 rfl) ?_
  refine lv_iload_n hx hb dX6_blend_1 rfl (lv_at hl 2 rfl) ?_
  refine z_callSi C Y (c_X6_isSpan l hv) (zFr.nil _) (va_cwS 2 hts gX6_blend_X6_isSpan rfl rfl rfl (by decide +kernel) ⟨(Nat.le_of_ble_eq_true rfl), (Nat.le_of_ble_eq_true rfl)⟩) rfl hl.1 rfl (Nat.le_of_ble_eq_true rfl) dX6_blend_2 ⟨Nat.zero_le _, Nat.zero_le _⟩ (fun r_1 _ H locs Y hv => ?_)
  refine lv_if_ne (tgt := 18) hx hb dX6_blend_5 (by decide) (fun hc => ?_) (fun hc => ?_)
  · have hv := hv.2 hc
    refine lv_aload_n hx hb dX6_blend_18 rfl (lv_at hl 0 rfl) ?_
    refine z_get C Y (Cn := RX6) (T := TX6) (N := 6) in_X6_blend_6 rfl (ge6_6 ..) 0 (by decide) fl_X6_blend_10 rfl dX6_blend_19 ?_
    refine lv_iload_n hx hb dX6_blend_22 rfl (lv_at hl 1 rfl) ?_
    refine lv_iload_n hx hb dX6_blend_23 rfl (lv_at hl 2 rfl) ?_
    refine z_callVv C Y (c_X1_seek l hv) (fr6_1 ..) (cwV 2 hts gX6_blend_X1_seek rfl rfl rfl (by decide +kernel) ⟨(Nat.le_of_ble_eq_true rfl), (Nat.le_of_ble_eq_true rfl)⟩) (ge1_1 ..) rfl rfl rfl hl.1 rfl (Nat.le_of_ble_eq_true rfl) dX6_blend_24 ⟨Nat.zero_le _, Nat.zero_le _⟩ (fun u1_2 H locs Y hv => ?_)
    refine lv_aload_n hx hb dX6_blend_27 rfl (lv_at hl 0 rfl) ?_
    refine z_get C Y (Cn := RX6) (T := TX6) (N := 6) in_X6_blend_6 rfl (ge6_6 ..) 0 (by decide) fl_X6_blend_10 rfl dX6_blend_28 ?_
    refine z_get C Y (Cn := RX1) (T := TX1) (N := 16) in_X6_blend_1 rfl (ge6_1 ..) 6 (by decide) fl_X6_blend_99 rfl dX6_blend_31 ?_
    exact hret Y hv dX6_blend_34
  · have hv := hv.1 hc
    exact hthr Y hv th_X6_blend_8 hl.1 (Nat.le_of_ble_eq_true rfl)

end
abbrev TX6_blend := wp_X6_blend_0
set_option maxHeartbeats 4000000 in
set_option maxRecDepth 100000 in
theorem c_X6_blend (l : Launch) {D : va_G} {cI cZ cJ : ClassId} {a : Nat → Nat → Nat} (hlt : l.stackTraces = false) {Q1 : Int32 → (zSt × zSt × zSt × zSt × zSt × zSt) → Prop} {QX : String → (zSt × zSt × zSt × zSt × zSt × zSt) → Prop} {p1 : Int32} {p2 : Int32} {u0 : zSt} {u1 : zSt} {u2 : zSt} {u3 : zSt} {u4 : zSt} {u5 : zSt} (hv : wp_X6_blend_0 Q1 QX p1 p2 u0 u1 u2 u3 u4 u5) : zXI l yX6_blend wsX6_blend ({ frames := 20, cells := 1, slots := 6, locals := 587 } : Room) D cI cZ cJ [.ref (a 6 99), .int p1, .int p2] (k6 a cI cZ (u0, u1, u2, u3, u4, u5)) (fun u : zSt × zSt × zSt × zSt × zSt × zSt => k6 a cI cZ u) Q1 QX :=
  z_ofXI hlt ⟨Nat.le_of_ble_eq_true rfl, Nat.le_of_ble_eq_true rfl, Nat.le_of_ble_eq_true rfl, Nat.le_of_ble_eq_true rfl⟩ (by decide) rfl rfl (Nat.le_of_ble_eq_true rfl) (fun C Y hl hret hthr => bk_X6_blend_0 C Y hl hret hthr hv)


theorem in_X6_parts_1 : ∀ w ∈ wsX10, w ∈ wsX6_parts := by first | exact fun w h => List.mem_cons_of_mem _ (List.mem_append_right _ h) | exact fun w h => List.mem_cons_of_mem _ (List.mem_append_left _ (List.mem_append_right _ h)) | decide +kernel
theorem in_X6_parts_6 : ∀ w ∈ wsX60, w ∈ wsX6_parts := by first | exact fun w h => List.mem_cons_of_mem _ (List.mem_append_right _ h) | exact fun w h => List.mem_cons_of_mem _ (List.mem_append_left _ (List.mem_append_right _ h)) | decide +kernel
theorem fl_X6_parts_10 : Cond.fieldLink RX6 10 (TX6 0).1 (TX6 0).2.1 (TX6 0).2.2.1 ∈ wsX6_parts := by decide +kernel
theorem fl_X6_parts_66 : Cond.fieldLink RX6 66 (TX1 4).1 (TX1 4).2.1 (TX1 4).2.2.1 ∈ wsX6_parts := by decide +kernel
theorem fl_X6_parts_99 : Cond.fieldLink RX6 99 (TX1 6).1 (TX1 6).2.1 (TX1 6).2.2.1 ∈ wsX6_parts := by decide +kernel
theorem fl_X6_parts_102 : Cond.fieldLink RX6 102 (TX1 5).1 (TX1 5).2.1 (TX1 5).2.2.1 ∈ wsX6_parts := by decide +kernel
theorem th_X6_parts_14 : zThr cX6_parts RX6 wsX6_parts "java/lang/IndexOutOfBoundsException" "no such earth" 82 84 86 14 := ⟨by decide +kernel, by decide +kernel, by decide +kernel, by decide +kernel, by decide +kernel, by decide +kernel, by decide +kernel, dX6_parts_14, dX6_parts_17, dX6_parts_18, dX6_parts_20, dX6_parts_23⟩
theorem th_X6_parts_32 : zThr cX6_parts RX6 wsX6_parts "java/lang/IllegalArgumentException" "not a grade" 59 93 63 32 := ⟨by decide +kernel, by decide +kernel, by decide +kernel, by decide +kernel, by decide +kernel, by decide +kernel, by decide +kernel, dX6_parts_32, dX6_parts_35, dX6_parts_36, dX6_parts_38, dX6_parts_41⟩
section
variable {p : Program} {l : Launch} {e : Env} {s : State} {m : MethodId} {args : Array Value} {below : List Frame} {meth : Method} {c : Code} {H : Heap} {locs : List Loc} {Q : State → Prop} {D : va_G} {cI cZ cJ : ClassId} {A : Nat → Prop} {ls : Array Slot}
def wp_X6_parts_0 (Q1 : Int32 → (zSt × zSt × zSt × zSt × zSt × zSt) → Prop) (QX : String → (zSt × zSt × zSt × zSt × zSt × zSt) → Prop) (p1 : Int32) (p2 : Int32) (p3 : Int32) (u0 : zSt) (u1 : zSt) (u2 : zSt) (u3 : zSt) (u4 : zSt) (u5 : zSt) : Prop :=
  TX6_isNumberOf (fun (r_1 : Int32) (_ : Unit) => (r_1 = (0 : Int32) → QX "java/lang/IndexOutOfBoundsException" (u0, u1, u2, u3, u4, u5)) ∧ (¬ r_1 = (0 : Int32) → TX6_isSpan (fun (r_2 : Int32) (_ : Unit) => (r_2 = (0 : Int32) → QX "java/lang/IllegalArgumentException" (u0, u1, u2, u3, u4, u5)) ∧ (¬ r_2 = (0 : Int32) → TX1_seek (fun (u1_3 : zSt) => ((u1_3.1 6) = (-1 : Int32) → Q1 (-1) (u0, u1_3, u2, u3, u4, u5)) ∧ (¬ (u1_3.1 6) = (-1 : Int32) → vp_in p3 6 ∧ (Q1 (u1_3.2 5 p3.toNatClampNeg) (u0, u1_3, u2, u3, u4, u5)))) p1 p2 u1)) p1 p2 )) p3 (u1.1 4) 

set_option maxHeartbeats 4000000 in
set_option maxRecDepth 100000 in
theorem bk_X6_parts_0 {a : Nat → Nat → Nat} {Q1 : Int32 → (zSt × zSt × zSt × zSt × zSt × zSt) → Prop} {QX : String → (zSt × zSt × zSt × zSt × zSt × zSt) → Prop} {p1 : Int32} {p2 : Int32} {p3 : Int32} {u0 : zSt} {u1 : zSt} {u2 : zSt} {u3 : zSt} {u4 : zSt} {u5 : zSt} (C : zCx p s m args c cX6_parts 4 RX6 wsX6_parts D cI cZ cJ A) (Y : zDy D A s.heap (k6 a cI cZ (u0, u1, u2, u3, u4, u5)) H locs) (hl : lv_has ls 4 [(0, .ref (a 6 99)), (1, .int p1), (2, .int p2), (3, .int p3)]) (hret : ∀ {pc : Nat} {H : Heap} {locs : List Loc} {ls : Array Slot} {r : Int32} {u : zSt × zSt × zSt × zSt × zSt × zSt}, zDy D A s.heap ((fun u : zSt × zSt × zSt × zSt × zSt × zSt => k6 a cI cZ u) u) H locs → Q1 r u → decode cX6_parts pc = .ok (.ireturn, 1) → W p l e ({ frames := 20, cells := 1, slots := 6, locals := 587 } : Room) s m args below meth c H locs 0 0 Q (F0 m pc ls [.int r])) (hthr : ∀ {pc : Nat} {H : Heap} {locs : List Loc} {ls : Array Slot} {rest : List Value} {u : zSt × zSt × zSt × zSt × zSt × zSt} {E text : String} {ik is ic : Nat}, zDy D A s.heap ((fun u : zSt × zSt × zSt × zSt × zSt × zSt => k6 a cI cZ u) u) H locs → QX E u → zThr cX6_parts RX6 wsX6_parts E text ik is ic pc → ls.size = 4 → (rest.map fun v => v.category).sum ≤ 8 → W p l e ({ frames := 20, cells := 1, slots := 6, locals := 587 } : Room) s m args below meth c H locs 0 0 Q (F0 m pc ls rest)) (hv : wp_X6_parts_0 Q1 QX p1 p2 p3 u0 u1 u2 u3 u4 u5) : W p l e ({ frames := 20, cells := 1, slots := 6, locals := 587 } : Room) s m args below meth c H locs 0 0 Q (F0 m 0 ls []) := by
  unfold wp_X6_parts_0 at hv
  obtain ⟨hx, hb, hml, hown, hts, hK, hA⟩ := id C
  refine lv_iload_n hx hb dX6_parts_0 rfl (lv_at hl 3 rfl) ?_
  refine lv_aload_n hx hb dX6_parts_1 rfl (lv_at hl 0 rfl) ?_
  refine z_get C Y (Cn := RX6) (T := TX6) (N := 6) in_X6_parts_6 rfl (ge6_6 ..) 0 (by decide) fl_X6_parts_10 rfl dX6_parts_2 ?_
  refine z_get C Y (Cn := RX1) (T := TX1) (N := 16) in_X6_parts_1 rfl (ge6_1 ..) 4 (by decide) fl_X6_parts_66 rfl dX6_parts_5 ?_
  refine z_callSi C Y (c_X6_isNumberOf l hv) (zFr.nil _) (va_cwS 2 hts gX6_parts_X6_isNumberOf rfl rfl rfl (by decide +kernel) ⟨(Nat.le_of_ble_eq_true rfl), (Nat.le_of_ble_eq_true rfl)⟩) rfl hl.1 rfl (Nat.le_of_ble_eq_true rfl) dX6_parts_8 ⟨Nat.zero_le _, Nat.zero_le _⟩ (fun r_1 _ H locs Y hv => ?_)
  refine lv_if_ne (tgt := 24) hx hb dX6_parts_11 (by decide) (fun hc => ?_) (fun hc => ?_)
  · have hv := hv.2 hc
    refine lv_iload_n hx hb dX6_parts_24 rfl (lv_at hl 1 rfl) ?_
    refine lv_iload_n hx hb dX6_parts_25 rfl (lv_at hl 2 rfl) ?_
    refine z_callSi C Y (c_X6_isSpan l hv) (zFr.nil _) (va_cwS 2 hts gX6_parts_X6_isSpan rfl rfl rfl (by decide +kernel) ⟨(Nat.le_of_ble_eq_true rfl), (Nat.le_of_ble_eq_true rfl)⟩) rfl hl.1 rfl (Nat.le_of_ble_eq_true rfl) dX6_parts_26 ⟨Nat.zero_le _, Nat.zero_le _⟩ (fun r_2 _ H locs Y hv => ?_)
    refine lv_if_ne (tgt := 42) hx hb dX6_parts_29 (by decide) (fun hc => ?_) (fun hc => ?_)
    · have hv := hv.2 hc
      refine lv_aload_n hx hb dX6_parts_42 rfl (lv_at hl 0 rfl) ?_
      refine z_get C Y (Cn := RX6) (T := TX6) (N := 6) in_X6_parts_6 rfl (ge6_6 ..) 0 (by decide) fl_X6_parts_10 rfl dX6_parts_43 ?_
      refine lv_iload_n hx hb dX6_parts_46 rfl (lv_at hl 1 rfl) ?_
      refine lv_iload_n hx hb dX6_parts_47 rfl (lv_at hl 2 rfl) ?_
      refine z_callVv C Y (c_X1_seek l hv) (fr6_1 ..) (cwV 2 hts gX6_parts_X1_seek rfl rfl rfl (by decide +kernel) ⟨(Nat.le_of_ble_eq_true rfl), (Nat.le_of_ble_eq_true rfl)⟩) (ge1_1 ..) rfl rfl rfl hl.1 rfl (Nat.le_of_ble_eq_true rfl) dX6_parts_48 ⟨Nat.zero_le _, Nat.zero_le _⟩ (fun u1_3 H locs Y hv => ?_)
      refine lv_aload_n hx hb dX6_parts_51 rfl (lv_at hl 0 rfl) ?_
      refine z_get C Y (Cn := RX6) (T := TX6) (N := 6) in_X6_parts_6 rfl (ge6_6 ..) 0 (by decide) fl_X6_parts_10 rfl dX6_parts_52 ?_
      refine z_get C Y (Cn := RX1) (T := TX1) (N := 16) in_X6_parts_1 rfl (ge6_1 ..) 6 (by decide) fl_X6_parts_99 rfl dX6_parts_55 ?_
      refine lv_iconst (v := (-1)) hx hb dX6_parts_58 (by decide) ?_
      refine lv_icmp_ne (tgt := 66) hx hb dX6_parts_59 (by decide) (fun hc => ?_) (fun hc => ?_)
      · have hv := hv.2 hc
        refine lv_aload_n hx hb dX6_parts_66 rfl (lv_at hl 0 rfl) ?_
        refine z_get C Y (Cn := RX6) (T := TX6) (N := 6) in_X6_parts_6 rfl (ge6_6 ..) 0 (by decide) fl_X6_parts_10 rfl dX6_parts_67 ?_
        refine z_get C Y (Cn := RX1) (T := TX1) (N := 16) in_X6_parts_1 rfl (ge6_1 ..) 5 (by decide) fl_X6_parts_102 rfl dX6_parts_70 ?_
        refine lv_iload_n hx hb dX6_parts_73 rfl (lv_at hl 3 rfl) ?_
        obtain ⟨hi, hv⟩ := hv
        refine z_ldI C Y (pa6_1_5 ..) hi dX6_parts_74 ?_
        exact hret Y hv dX6_parts_75
      · have hv := hv.1 hc
        refine lv_iconst (v := (-1)) hx hb dX6_parts_62 (by decide) ?_
        refine lv_goto (tgt := 75) hx hb dX6_parts_63 (by decide) ?_
        exact hret Y hv dX6_parts_75
    · have hv := hv.1 hc
      exact hthr Y hv th_X6_parts_32 hl.1 (Nat.le_of_ble_eq_true rfl)
  · have hv := hv.1 hc
    exact hthr Y hv th_X6_parts_14 hl.1 (Nat.le_of_ble_eq_true rfl)

end
abbrev TX6_parts := wp_X6_parts_0
set_option maxHeartbeats 4000000 in
set_option maxRecDepth 100000 in
theorem c_X6_parts (l : Launch) {D : va_G} {cI cZ cJ : ClassId} {a : Nat → Nat → Nat} (hlt : l.stackTraces = false) {Q1 : Int32 → (zSt × zSt × zSt × zSt × zSt × zSt) → Prop} {QX : String → (zSt × zSt × zSt × zSt × zSt × zSt) → Prop} {p1 : Int32} {p2 : Int32} {p3 : Int32} {u0 : zSt} {u1 : zSt} {u2 : zSt} {u3 : zSt} {u4 : zSt} {u5 : zSt} (hv : wp_X6_parts_0 Q1 QX p1 p2 p3 u0 u1 u2 u3 u4 u5) : zXI l yX6_parts wsX6_parts ({ frames := 20, cells := 1, slots := 6, locals := 587 } : Room) D cI cZ cJ [.ref (a 6 99), .int p1, .int p2, .int p3] (k6 a cI cZ (u0, u1, u2, u3, u4, u5)) (fun u : zSt × zSt × zSt × zSt × zSt × zSt => k6 a cI cZ u) Q1 QX :=
  z_ofXI hlt ⟨Nat.le_of_ble_eq_true rfl, Nat.le_of_ble_eq_true rfl, Nat.le_of_ble_eq_true rfl, Nat.le_of_ble_eq_true rfl⟩ (by decide) rfl rfl (Nat.le_of_ble_eq_true rfl) (fun C Y hl hret hthr => bk_X6_parts_0 C Y hl hret hthr hv)


theorem in_X6_cores_1 : ∀ w ∈ wsX10, w ∈ wsX6_cores := by first | exact fun w h => List.mem_cons_of_mem _ (List.mem_append_right _ h) | exact fun w h => List.mem_cons_of_mem _ (List.mem_append_left _ (List.mem_append_right _ h)) | decide +kernel
theorem in_X6_cores_3 : ∀ w ∈ wsX30, w ∈ wsX6_cores := by first | exact fun w h => List.mem_cons_of_mem _ (List.mem_append_right _ h) | exact fun w h => List.mem_cons_of_mem _ (List.mem_append_left _ (List.mem_append_right _ h)) | decide +kernel
theorem in_X6_cores_6 : ∀ w ∈ wsX60, w ∈ wsX6_cores := by first | exact fun w h => List.mem_cons_of_mem _ (List.mem_append_right _ h) | exact fun w h => List.mem_cons_of_mem _ (List.mem_append_left _ (List.mem_append_right _ h)) | decide +kernel
theorem fl_X6_cores_10 : Cond.fieldLink RX6 10 (TX6 0).1 (TX6 0).2.1 (TX6 0).2.2.1 ∈ wsX6_cores := by decide +kernel
theorem fl_X6_cores_19 : Cond.fieldLink RX6 19 (TX6 1).1 (TX6 1).2.1 (TX6 1).2.2.1 ∈ wsX6_cores := by decide +kernel
theorem fl_X6_cores_99 : Cond.fieldLink RX6 99 (TX1 6).1 (TX1 6).2.1 (TX1 6).2.2.1 ∈ wsX6_cores := by decide +kernel
theorem fl_X6_cores_105 : Cond.fieldLink RX6 105 (TX3 5).1 (TX3 5).2.1 (TX3 5).2.2.1 ∈ wsX6_cores := by decide +kernel
theorem fl_X6_cores_109 : Cond.fieldLink RX6 109 (TX1 7).1 (TX1 7).2.1 (TX1 7).2.2.1 ∈ wsX6_cores := by decide +kernel
theorem fl_X6_cores_112 : Cond.fieldLink RX6 112 (TX1 8).1 (TX1 8).2.1 (TX1 8).2.2.1 ∈ wsX6_cores := by decide +kernel
theorem th_X6_cores_8 : zThr cX6_cores RX6 wsX6_cores "java/lang/IllegalArgumentException" "not a grade" 59 93 63 8 := ⟨by decide +kernel, by decide +kernel, by decide +kernel, by decide +kernel, by decide +kernel, by decide +kernel, by decide +kernel, dX6_cores_8, dX6_cores_11, dX6_cores_12, dX6_cores_14, dX6_cores_17⟩
section
variable {p : Program} {l : Launch} {e : Env} {s : State} {m : MethodId} {args : Array Value} {below : List Frame} {meth : Method} {c : Code} {H : Heap} {locs : List Loc} {Q : State → Prop} {D : va_G} {cI cZ cJ : ClassId} {A : Nat → Prop} {ls : Array Slot}
def wp_X6_cores_0 (Q1 : Int32 → (zSt × zSt × zSt × zSt × zSt × zSt) → Prop) (QX : String → (zSt × zSt × zSt × zSt × zSt × zSt) → Prop) (p1 : Int32) (p2 : Int32) (u0 : zSt) (u1 : zSt) (u2 : zSt) (u3 : zSt) (u4 : zSt) (u5 : zSt) : Prop :=
  TX6_isSpan (fun (r_1 : Int32) (_ : Unit) => (r_1 = (0 : Int32) → QX "java/lang/IllegalArgumentException" (u0, u1, u2, u3, u4, u5)) ∧ (¬ r_1 = (0 : Int32) → ((u3.1 5) < (12 : Int32) → TX1_seek (fun (u1_2 : zSt) => ((u1_2.1 6) = (-1 : Int32) → Q1 (-1) (u0, u1_2, u2, u3, u4, u5)) ∧ (¬ (u1_2.1 6) = (-1 : Int32) → TX1_takeBest (fun (u1_4 : zSt) => TX3_add (fun (r_7 : Int32) (u3_6 : zSt) => Q1 r_7 (u0, u1_4, u2, u3_6, u4, u5)) 0 40 (u1_4.1 7) (u1_4.1 8) u3)  u1_2)) p1 p2 u1) ∧ (¬ (u3.1 5) < (12 : Int32) → Q1 (-1) (u0, u1, u2, u3, u4, u5)))) p1 p2 

set_option maxHeartbeats 4000000 in
set_option maxRecDepth 100000 in
theorem bk_X6_cores_0 {a : Nat → Nat → Nat} {Q1 : Int32 → (zSt × zSt × zSt × zSt × zSt × zSt) → Prop} {QX : String → (zSt × zSt × zSt × zSt × zSt × zSt) → Prop} {p1 : Int32} {p2 : Int32} {u0 : zSt} {u1 : zSt} {u2 : zSt} {u3 : zSt} {u4 : zSt} {u5 : zSt} (C : zCx p s m args c cX6_cores 3 RX6 wsX6_cores D cI cZ cJ A) (Y : zDy D A s.heap (k6 a cI cZ (u0, u1, u2, u3, u4, u5)) H locs) (hl : lv_has ls 3 [(0, .ref (a 6 99)), (1, .int p1), (2, .int p2)]) (hret : ∀ {pc : Nat} {H : Heap} {locs : List Loc} {ls : Array Slot} {r : Int32} {u : zSt × zSt × zSt × zSt × zSt × zSt}, zDy D A s.heap ((fun u : zSt × zSt × zSt × zSt × zSt × zSt => k6 a cI cZ u) u) H locs → Q1 r u → decode cX6_cores pc = .ok (.ireturn, 1) → W p l e ({ frames := 20, cells := 1, slots := 6, locals := 587 } : Room) s m args below meth c H locs 0 0 Q (F0 m pc ls [.int r])) (hthr : ∀ {pc : Nat} {H : Heap} {locs : List Loc} {ls : Array Slot} {rest : List Value} {u : zSt × zSt × zSt × zSt × zSt × zSt} {E text : String} {ik is ic : Nat}, zDy D A s.heap ((fun u : zSt × zSt × zSt × zSt × zSt × zSt => k6 a cI cZ u) u) H locs → QX E u → zThr cX6_cores RX6 wsX6_cores E text ik is ic pc → ls.size = 3 → (rest.map fun v => v.category).sum ≤ 8 → W p l e ({ frames := 20, cells := 1, slots := 6, locals := 587 } : Room) s m args below meth c H locs 0 0 Q (F0 m pc ls rest)) (hv : wp_X6_cores_0 Q1 QX p1 p2 u0 u1 u2 u3 u4 u5) : W p l e ({ frames := 20, cells := 1, slots := 6, locals := 587 } : Room) s m args below meth c H locs 0 0 Q (F0 m 0 ls []) := by
  unfold wp_X6_cores_0 at hv
  obtain ⟨hx, hb, hml, hown, hts, hK, hA⟩ := id C
  refine lv_iload_n hx hb dX6_cores_0 rfl (lv_at hl 1 rfl) ?_
  refine lv_iload_n hx hb dX6_cores_1 rfl (lv_at hl 2 rfl) ?_
  refine z_callSi C Y (c_X6_isSpan l hv) (zFr.nil _) (va_cwS 2 hts gX6_cores_X6_isSpan rfl rfl rfl (by decide +kernel) ⟨(Nat.le_of_ble_eq_true rfl), (Nat.le_of_ble_eq_true rfl)⟩) rfl hl.1 rfl (Nat.le_of_ble_eq_true rfl) dX6_cores_2 ⟨Nat.zero_le _, Nat.zero_le _⟩ (fun r_1 _ H locs Y hv => ?_)
  refine lv_if_ne (tgt := 18) hx hb dX6_cores_5 (by decide) (fun hc => ?_) (fun hc => ?_)
  · have hv := hv.2 hc
    refine lv_aload_n hx hb dX6_cores_18 rfl (lv_at hl 0 rfl) ?_
    refine z_get C Y (Cn := RX6) (T := TX6) (N := 6) in_X6_cores_6 rfl (ge6_6 ..) 1 (by decide) fl_X6_cores_19 rfl dX6_cores_19 ?_
    refine z_get C Y (Cn := RX3) (T := TX3) (N := 9) in_X6_cores_3 rfl (ge6_3 ..) 5 (by decide) fl_X6_cores_105 rfl dX6_cores_22 ?_
    refine lv_bipush (v := 12) hx hb dX6_cores_25 (by decide) ?_
    refine lv_icmp_lt (tgt := 32) hx hb dX6_cores_27 (by decide) (fun hc => ?_) (fun hc => ?_)
    · have hv := hv.1 hc
      refine lv_aload_n hx hb dX6_cores_32 rfl (lv_at hl 0 rfl) ?_
      refine z_get C Y (Cn := RX6) (T := TX6) (N := 6) in_X6_cores_6 rfl (ge6_6 ..) 0 (by decide) fl_X6_cores_10 rfl dX6_cores_33 ?_
      refine lv_iload_n hx hb dX6_cores_36 rfl (lv_at hl 1 rfl) ?_
      refine lv_iload_n hx hb dX6_cores_37 rfl (lv_at hl 2 rfl) ?_
      refine z_callVv C Y (c_X1_seek l hv) (fr6_1 ..) (cwV 2 hts gX6_cores_X1_seek rfl rfl rfl (by decide +kernel) ⟨(Nat.le_of_ble_eq_true rfl), (Nat.le_of_ble_eq_true rfl)⟩) (ge1_1 ..) rfl rfl rfl hl.1 rfl (Nat.le_of_ble_eq_true rfl) dX6_cores_38 ⟨Nat.zero_le _, Nat.zero_le _⟩ (fun u1_2 H locs Y hv => ?_)
      refine lv_aload_n hx hb dX6_cores_41 rfl (lv_at hl 0 rfl) ?_
      refine z_get C Y (Cn := RX6) (T := TX6) (N := 6) in_X6_cores_6 rfl (ge6_6 ..) 0 (by decide) fl_X6_cores_10 rfl dX6_cores_42 ?_
      refine z_get C Y (Cn := RX1) (T := TX1) (N := 16) in_X6_cores_1 rfl (ge6_1 ..) 6 (by decide) fl_X6_cores_99 rfl dX6_cores_45 ?_
      refine lv_iconst (v := (-1)) hx hb dX6_cores_48 (by decide) ?_
      refine lv_icmp_ne (tgt := 54) hx hb dX6_cores_49 (by decide) (fun hc => ?_) (fun hc => ?_)
      · have hv := hv.2 hc
        refine lv_aload_n hx hb dX6_cores_54 rfl (lv_at hl 0 rfl) ?_
        refine z_get C Y (Cn := RX6) (T := TX6) (N := 6) in_X6_cores_6 rfl (ge6_6 ..) 0 (by decide) fl_X6_cores_10 rfl dX6_cores_55 ?_
        refine z_callVv C Y (c_X1_takeBest l hv) (fr6_1 ..) (cwV 0 hts gX6_cores_X1_takeBest rfl rfl rfl (by decide +kernel) ⟨(Nat.le_of_ble_eq_true rfl), (Nat.le_of_ble_eq_true rfl)⟩) (ge1_1 ..) rfl rfl rfl hl.1 rfl (Nat.le_of_ble_eq_true rfl) dX6_cores_58 ⟨Nat.zero_le _, Nat.zero_le _⟩ (fun u1_4 H locs Y hv => ?_)
        refine lv_aload_n hx hb dX6_cores_61 rfl (lv_at hl 0 rfl) ?_
        refine z_get C Y (Cn := RX6) (T := TX6) (N := 6) in_X6_cores_6 rfl (ge6_6 ..) 1 (by decide) fl_X6_cores_19 rfl dX6_cores_62 ?_
        refine lv_iconst (v := 0) hx hb dX6_cores_65 (by decide) ?_
        refine lv_bipush (v := 40) hx hb dX6_cores_66 (by decide) ?_
        refine lv_aload_n hx hb dX6_cores_68 rfl (lv_at hl 0 rfl) ?_
        refine z_get C Y (Cn := RX6) (T := TX6) (N := 6) in_X6_cores_6 rfl (ge6_6 ..) 0 (by decide) fl_X6_cores_10 rfl dX6_cores_69 ?_
        refine z_get C Y (Cn := RX1) (T := TX1) (N := 16) in_X6_cores_1 rfl (ge6_1 ..) 7 (by decide) fl_X6_cores_109 rfl dX6_cores_72 ?_
        refine lv_aload_n hx hb dX6_cores_75 rfl (lv_at hl 0 rfl) ?_
        refine z_get C Y (Cn := RX6) (T := TX6) (N := 6) in_X6_cores_6 rfl (ge6_6 ..) 0 (by decide) fl_X6_cores_10 rfl dX6_cores_76 ?_
        refine z_get C Y (Cn := RX1) (T := TX1) (N := 16) in_X6_cores_1 rfl (ge6_1 ..) 8 (by decide) fl_X6_cores_112 rfl dX6_cores_79 ?_
        refine z_callVi C Y (c_X3_add l hv) (fr6_3 ..) (cwV 4 hts gX6_cores_X3_add rfl rfl rfl (by decide +kernel) ⟨(Nat.le_of_ble_eq_true rfl), (Nat.le_of_ble_eq_true rfl)⟩) (ge3_3 ..) rfl rfl rfl hl.1 rfl (Nat.le_of_ble_eq_true rfl) dX6_cores_82 ⟨Nat.zero_le _, Nat.zero_le _⟩ (fun r_7 u3_6 H locs Y hv => ?_)
        exact hret Y hv dX6_cores_85
      · have hv := hv.1 hc
        refine lv_iconst (v := (-1)) hx hb dX6_cores_52 (by decide) ?_
        exact hret Y hv dX6_cores_53
    · have hv := hv.2 hc
      refine lv_iconst (v := (-1)) hx hb dX6_cores_30 (by decide) ?_
      exact hret Y hv dX6_cores_31
  · have hv := hv.1 hc
    exact hthr Y hv th_X6_cores_8 hl.1 (Nat.le_of_ble_eq_true rfl)

end
abbrev TX6_cores := wp_X6_cores_0
set_option maxHeartbeats 4000000 in
set_option maxRecDepth 100000 in
theorem c_X6_cores (l : Launch) {D : va_G} {cI cZ cJ : ClassId} {a : Nat → Nat → Nat} (hlt : l.stackTraces = false) {Q1 : Int32 → (zSt × zSt × zSt × zSt × zSt × zSt) → Prop} {QX : String → (zSt × zSt × zSt × zSt × zSt × zSt) → Prop} {p1 : Int32} {p2 : Int32} {u0 : zSt} {u1 : zSt} {u2 : zSt} {u3 : zSt} {u4 : zSt} {u5 : zSt} (hv : wp_X6_cores_0 Q1 QX p1 p2 u0 u1 u2 u3 u4 u5) : zXI l yX6_cores wsX6_cores ({ frames := 20, cells := 1, slots := 6, locals := 587 } : Room) D cI cZ cJ [.ref (a 6 99), .int p1, .int p2] (k6 a cI cZ (u0, u1, u2, u3, u4, u5)) (fun u : zSt × zSt × zSt × zSt × zSt × zSt => k6 a cI cZ u) Q1 QX :=
  z_ofXI hlt ⟨Nat.le_of_ble_eq_true rfl, Nat.le_of_ble_eq_true rfl, Nat.le_of_ble_eq_true rfl, Nat.le_of_ble_eq_true rfl⟩ (by decide) rfl rfl (Nat.le_of_ble_eq_true rfl) (fun C Y hl hret hthr => bk_X6_cores_0 C Y hl hret hthr hv)


theorem in_X6_lot_3 : ∀ w ∈ wsX30, w ∈ wsX6_lot := by first | exact fun w h => List.mem_cons_of_mem _ (List.mem_append_right _ h) | exact fun w h => List.mem_cons_of_mem _ (List.mem_append_left _ (List.mem_append_right _ h)) | decide +kernel
theorem in_X6_lot_6 : ∀ w ∈ wsX60, w ∈ wsX6_lot := by first | exact fun w h => List.mem_cons_of_mem _ (List.mem_append_right _ h) | exact fun w h => List.mem_cons_of_mem _ (List.mem_append_left _ (List.mem_append_right _ h)) | decide +kernel
theorem fl_X6_lot_19 : Cond.fieldLink RX6 19 (TX6 1).1 (TX6 1).2.1 (TX6 1).2.2.1 ∈ wsX6_lot := by decide +kernel
theorem fl_X6_lot_105 : Cond.fieldLink RX6 105 (TX3 5).1 (TX3 5).2.1 (TX3 5).2.2.1 ∈ wsX6_lot := by decide +kernel
theorem th_X6_lot_21 : zThr cX6_lot RX6 wsX6_lot "java/lang/IllegalArgumentException" "kind or pieces are none" 59 116 63 21 := ⟨by decide +kernel, by decide +kernel, by decide +kernel, by decide +kernel, by decide +kernel, by decide +kernel, by decide +kernel, dX6_lot_21, dX6_lot_24, dX6_lot_25, dX6_lot_27, dX6_lot_30⟩
theorem th_X6_lot_43 : zThr cX6_lot RX6 wsX6_lot "java/lang/UnsupportedOperationException" "there are 12 lots" 70 118 74 43 := ⟨by decide +kernel, by decide +kernel, by decide +kernel, by decide +kernel, by decide +kernel, by decide +kernel, by decide +kernel, dX6_lot_43, dX6_lot_46, dX6_lot_47, dX6_lot_49, dX6_lot_52⟩
section
variable {p : Program} {l : Launch} {e : Env} {s : State} {m : MethodId} {args : Array Value} {below : List Frame} {meth : Method} {c : Code} {H : Heap} {locs : List Loc} {Q : State → Prop} {D : va_G} {cI cZ cJ : ClassId} {A : Nat → Prop} {ls : Array Slot}
def wp_X6_lot_21 (Q1 : Int32 → (zSt × zSt × zSt × zSt × zSt × zSt) → Prop) (QX : String → (zSt × zSt × zSt × zSt × zSt × zSt) → Prop) (u0 : zSt) (u1 : zSt) (u2 : zSt) (u3 : zSt) (u4 : zSt) (u5 : zSt) : Prop :=
  QX "java/lang/IllegalArgumentException" (u0, u1, u2, u3, u4, u5)

set_option maxHeartbeats 4000000 in
set_option maxRecDepth 100000 in
theorem bk_X6_lot_21 {a : Nat → Nat → Nat} {Q1 : Int32 → (zSt × zSt × zSt × zSt × zSt × zSt) → Prop} {QX : String → (zSt × zSt × zSt × zSt × zSt × zSt) → Prop} {u0 : zSt} {u1 : zSt} {u2 : zSt} {u3 : zSt} {u4 : zSt} {u5 : zSt} (C : zCx p s m args c cX6_lot 3 RX6 wsX6_lot D cI cZ cJ A) (Y : zDy D A s.heap (k6 a cI cZ (u0, u1, u2, u3, u4, u5)) H locs) (hl : lv_has ls 3 []) (hret : ∀ {pc : Nat} {H : Heap} {locs : List Loc} {ls : Array Slot} {r : Int32} {u : zSt × zSt × zSt × zSt × zSt × zSt}, zDy D A s.heap ((fun u : zSt × zSt × zSt × zSt × zSt × zSt => k6 a cI cZ u) u) H locs → Q1 r u → decode cX6_lot pc = .ok (.ireturn, 1) → W p l e ({ frames := 6, cells := 1, slots := 6, locals := 90 } : Room) s m args below meth c H locs 0 0 Q (F0 m pc ls [.int r])) (hthr : ∀ {pc : Nat} {H : Heap} {locs : List Loc} {ls : Array Slot} {rest : List Value} {u : zSt × zSt × zSt × zSt × zSt × zSt} {E text : String} {ik is ic : Nat}, zDy D A s.heap ((fun u : zSt × zSt × zSt × zSt × zSt × zSt => k6 a cI cZ u) u) H locs → QX E u → zThr cX6_lot RX6 wsX6_lot E text ik is ic pc → ls.size = 3 → (rest.map fun v => v.category).sum ≤ 8 → W p l e ({ frames := 6, cells := 1, slots := 6, locals := 90 } : Room) s m args below meth c H locs 0 0 Q (F0 m pc ls rest)) (hv : wp_X6_lot_21 Q1 QX  u0 u1 u2 u3 u4 u5) : W p l e ({ frames := 6, cells := 1, slots := 6, locals := 90 } : Room) s m args below meth c H locs 0 0 Q (F0 m 21 ls []) := by
  unfold wp_X6_lot_21 at hv
  obtain ⟨hx, hb, hml, hown, hts, hK, hA⟩ := id C
  exact hthr Y hv th_X6_lot_21 hl.1 (Nat.le_of_ble_eq_true rfl)

def wp_X6_lot_10 (Q1 : Int32 → (zSt × zSt × zSt × zSt × zSt × zSt) → Prop) (QX : String → (zSt × zSt × zSt × zSt × zSt × zSt) → Prop) (x1 : Int32) (x2 : Int32) (u0 : zSt) (u1 : zSt) (u2 : zSt) (u3 : zSt) (u4 : zSt) (u5 : zSt) : Prop :=
  TX6_isWithin (fun (r_1 : Int32) (_ : Unit) => (r_1 = (0 : Int32) → wp_X6_lot_21 Q1 QX  u0 u1 u2 u3 u4 u5) ∧ (¬ r_1 = (0 : Int32) → ((u3.1 5) < (12 : Int32) → TX3_add (fun (r_3 : Int32) (u3_2 : zSt) => Q1 r_3 (u0, u1, u2, u3_2, u4, u5)) x1 x2 (-1) (-1) u3) ∧ (¬ (u3.1 5) < (12 : Int32) → QX "java/lang/UnsupportedOperationException" (u0, u1, u2, u3, u4, u5)))) x2 0 10000 

set_option maxHeartbeats 4000000 in
set_option maxRecDepth 100000 in
theorem bk_X6_lot_10 {a : Nat → Nat → Nat} {Q1 : Int32 → (zSt × zSt × zSt × zSt × zSt × zSt) → Prop} {QX : String → (zSt × zSt × zSt × zSt × zSt × zSt) → Prop} {x1 : Int32} {x2 : Int32} {u0 : zSt} {u1 : zSt} {u2 : zSt} {u3 : zSt} {u4 : zSt} {u5 : zSt} (C : zCx p s m args c cX6_lot 3 RX6 wsX6_lot D cI cZ cJ A) (Y : zDy D A s.heap (k6 a cI cZ (u0, u1, u2, u3, u4, u5)) H locs) (hl : lv_has ls 3 [(0, .ref (a 6 99)), (1, .int x1), (2, .int x2)]) (hret : ∀ {pc : Nat} {H : Heap} {locs : List Loc} {ls : Array Slot} {r : Int32} {u : zSt × zSt × zSt × zSt × zSt × zSt}, zDy D A s.heap ((fun u : zSt × zSt × zSt × zSt × zSt × zSt => k6 a cI cZ u) u) H locs → Q1 r u → decode cX6_lot pc = .ok (.ireturn, 1) → W p l e ({ frames := 6, cells := 1, slots := 6, locals := 90 } : Room) s m args below meth c H locs 0 0 Q (F0 m pc ls [.int r])) (hthr : ∀ {pc : Nat} {H : Heap} {locs : List Loc} {ls : Array Slot} {rest : List Value} {u : zSt × zSt × zSt × zSt × zSt × zSt} {E text : String} {ik is ic : Nat}, zDy D A s.heap ((fun u : zSt × zSt × zSt × zSt × zSt × zSt => k6 a cI cZ u) u) H locs → QX E u → zThr cX6_lot RX6 wsX6_lot E text ik is ic pc → ls.size = 3 → (rest.map fun v => v.category).sum ≤ 8 → W p l e ({ frames := 6, cells := 1, slots := 6, locals := 90 } : Room) s m args below meth c H locs 0 0 Q (F0 m pc ls rest)) (hv : wp_X6_lot_10 Q1 QX x1 x2 u0 u1 u2 u3 u4 u5) : W p l e ({ frames := 6, cells := 1, slots := 6, locals := 90 } : Room) s m args below meth c H locs 0 0 Q (F0 m 10 ls []) := by
  unfold wp_X6_lot_10 at hv
  obtain ⟨hx, hb, hml, hown, hts, hK, hA⟩ := id C
  refine lv_iload_n hx hb dX6_lot_10 rfl (lv_at hl 2 rfl) ?_
  refine lv_iconst (v := 0) hx hb dX6_lot_11 (by decide) ?_
  refine lv_sipush (v := 10000) hx hb dX6_lot_12 (by decide) ?_
  refine z_callSi C Y (c_X6_isWithin l hv) (zFr.nil _) (va_cwS 3 hts gX6_lot_X6_isWithin rfl rfl rfl (by decide +kernel) ⟨(Nat.le_of_ble_eq_true rfl), (Nat.le_of_ble_eq_true rfl)⟩) rfl hl.1 rfl (Nat.le_of_ble_eq_true rfl) dX6_lot_15 ⟨Nat.zero_le _, Nat.zero_le _⟩ (fun r_1 _ H locs Y hv => ?_)
  refine lv_if_ne (tgt := 31) hx hb dX6_lot_18 (by decide) (fun hc => ?_) (fun hc => ?_)
  · have hv := hv.2 hc
    refine lv_aload_n hx hb dX6_lot_31 rfl (lv_at hl 0 rfl) ?_
    refine z_get C Y (Cn := RX6) (T := TX6) (N := 6) in_X6_lot_6 rfl (ge6_6 ..) 1 (by decide) fl_X6_lot_19 rfl dX6_lot_32 ?_
    refine z_get C Y (Cn := RX3) (T := TX3) (N := 9) in_X6_lot_3 rfl (ge6_3 ..) 5 (by decide) fl_X6_lot_105 rfl dX6_lot_35 ?_
    refine lv_bipush (v := 12) hx hb dX6_lot_38 (by decide) ?_
    refine lv_icmp_lt (tgt := 53) hx hb dX6_lot_40 (by decide) (fun hc => ?_) (fun hc => ?_)
    · have hv := hv.1 hc
      refine lv_aload_n hx hb dX6_lot_53 rfl (lv_at hl 0 rfl) ?_
      refine z_get C Y (Cn := RX6) (T := TX6) (N := 6) in_X6_lot_6 rfl (ge6_6 ..) 1 (by decide) fl_X6_lot_19 rfl dX6_lot_54 ?_
      refine lv_iload_n hx hb dX6_lot_57 rfl (lv_at hl 1 rfl) ?_
      refine lv_iload_n hx hb dX6_lot_58 rfl (lv_at hl 2 rfl) ?_
      refine lv_iconst (v := (-1)) hx hb dX6_lot_59 (by decide) ?_
      refine lv_iconst (v := (-1)) hx hb dX6_lot_60 (by decide) ?_
      refine z_callVi C Y (c_X3_add l hv) (fr6_3 ..) (cwV 4 hts gX6_lot_X3_add rfl rfl rfl (by decide +kernel) ⟨(Nat.le_of_ble_eq_true rfl), (Nat.le_of_ble_eq_true rfl)⟩) (ge3_3 ..) rfl rfl rfl hl.1 rfl (Nat.le_of_ble_eq_true rfl) dX6_lot_61 ⟨Nat.zero_le _, Nat.zero_le _⟩ (fun r_3 u3_2 H locs Y hv => ?_)
      exact hret Y hv dX6_lot_64
    · have hv := hv.2 hc
      exact hthr Y hv th_X6_lot_43 hl.1 (Nat.le_of_ble_eq_true rfl)
  · have hv := hv.1 hc
    exact bk_X6_lot_21 C Y (lv_sub hl [] rfl) hret hthr hv

def wp_X6_lot_0 (Q1 : Int32 → (zSt × zSt × zSt × zSt × zSt × zSt) → Prop) (QX : String → (zSt × zSt × zSt × zSt × zSt × zSt) → Prop) (p1 : Int32) (p2 : Int32) (u0 : zSt) (u1 : zSt) (u2 : zSt) (u3 : zSt) (u4 : zSt) (u5 : zSt) : Prop :=
  (p1 = (1 : Int32) → wp_X6_lot_10 Q1 QX p1 p2 u0 u1 u2 u3 u4 u5) ∧ (¬ p1 = (1 : Int32) → (p1 = (2 : Int32) → wp_X6_lot_10 Q1 QX p1 p2 u0 u1 u2 u3 u4 u5) ∧ (¬ p1 = (2 : Int32) → wp_X6_lot_21 Q1 QX  u0 u1 u2 u3 u4 u5))

set_option maxHeartbeats 4000000 in
set_option maxRecDepth 100000 in
theorem bk_X6_lot_0 {a : Nat → Nat → Nat} {Q1 : Int32 → (zSt × zSt × zSt × zSt × zSt × zSt) → Prop} {QX : String → (zSt × zSt × zSt × zSt × zSt × zSt) → Prop} {p1 : Int32} {p2 : Int32} {u0 : zSt} {u1 : zSt} {u2 : zSt} {u3 : zSt} {u4 : zSt} {u5 : zSt} (C : zCx p s m args c cX6_lot 3 RX6 wsX6_lot D cI cZ cJ A) (Y : zDy D A s.heap (k6 a cI cZ (u0, u1, u2, u3, u4, u5)) H locs) (hl : lv_has ls 3 [(0, .ref (a 6 99)), (1, .int p1), (2, .int p2)]) (hret : ∀ {pc : Nat} {H : Heap} {locs : List Loc} {ls : Array Slot} {r : Int32} {u : zSt × zSt × zSt × zSt × zSt × zSt}, zDy D A s.heap ((fun u : zSt × zSt × zSt × zSt × zSt × zSt => k6 a cI cZ u) u) H locs → Q1 r u → decode cX6_lot pc = .ok (.ireturn, 1) → W p l e ({ frames := 6, cells := 1, slots := 6, locals := 90 } : Room) s m args below meth c H locs 0 0 Q (F0 m pc ls [.int r])) (hthr : ∀ {pc : Nat} {H : Heap} {locs : List Loc} {ls : Array Slot} {rest : List Value} {u : zSt × zSt × zSt × zSt × zSt × zSt} {E text : String} {ik is ic : Nat}, zDy D A s.heap ((fun u : zSt × zSt × zSt × zSt × zSt × zSt => k6 a cI cZ u) u) H locs → QX E u → zThr cX6_lot RX6 wsX6_lot E text ik is ic pc → ls.size = 3 → (rest.map fun v => v.category).sum ≤ 8 → W p l e ({ frames := 6, cells := 1, slots := 6, locals := 90 } : Room) s m args below meth c H locs 0 0 Q (F0 m pc ls rest)) (hv : wp_X6_lot_0 Q1 QX p1 p2 u0 u1 u2 u3 u4 u5) : W p l e ({ frames := 6, cells := 1, slots := 6, locals := 90 } : Room) s m args below meth c H locs 0 0 Q (F0 m 0 ls []) := by
  unfold wp_X6_lot_0 at hv
  obtain ⟨hx, hb, hml, hown, hts, hK, hA⟩ := id C
  refine lv_iload_n hx hb dX6_lot_0 rfl (lv_at hl 1 rfl) ?_
  refine lv_iconst (v := 1) hx hb dX6_lot_1 (by decide) ?_
  refine lv_icmp_eq (tgt := 10) hx hb dX6_lot_2 (by decide) (fun hc => ?_) (fun hc => ?_)
  · have hv := hv.1 hc
    exact bk_X6_lot_10 C Y (lv_sub hl [0, 1, 2] rfl) hret hthr hv
  · have hv := hv.2 hc
    refine lv_iload_n hx hb dX6_lot_5 rfl (lv_at hl 1 rfl) ?_
    refine lv_iconst (v := 2) hx hb dX6_lot_6 (by decide) ?_
    refine lv_icmp_ne (tgt := 21) hx hb dX6_lot_7 (by decide) (fun hc => ?_) (fun hc => ?_)
    · have hv := hv.2 hc
      exact bk_X6_lot_21 C Y (lv_sub hl [] rfl) hret hthr hv
    · have hv := hv.1 hc
      exact bk_X6_lot_10 C Y (lv_sub hl [0, 1, 2] rfl) hret hthr hv

end
abbrev TX6_lot := wp_X6_lot_0
set_option maxHeartbeats 4000000 in
set_option maxRecDepth 100000 in
theorem c_X6_lot (l : Launch) {D : va_G} {cI cZ cJ : ClassId} {a : Nat → Nat → Nat} (hlt : l.stackTraces = false) {Q1 : Int32 → (zSt × zSt × zSt × zSt × zSt × zSt) → Prop} {QX : String → (zSt × zSt × zSt × zSt × zSt × zSt) → Prop} {p1 : Int32} {p2 : Int32} {u0 : zSt} {u1 : zSt} {u2 : zSt} {u3 : zSt} {u4 : zSt} {u5 : zSt} (hv : wp_X6_lot_0 Q1 QX p1 p2 u0 u1 u2 u3 u4 u5) : zXI l yX6_lot wsX6_lot ({ frames := 6, cells := 1, slots := 6, locals := 90 } : Room) D cI cZ cJ [.ref (a 6 99), .int p1, .int p2] (k6 a cI cZ (u0, u1, u2, u3, u4, u5)) (fun u : zSt × zSt × zSt × zSt × zSt × zSt => k6 a cI cZ u) Q1 QX :=
  z_ofXI hlt ⟨Nat.le_of_ble_eq_true rfl, Nat.le_of_ble_eq_true rfl, Nat.le_of_ble_eq_true rfl, Nat.le_of_ble_eq_true rfl⟩ (by decide) rfl rfl (Nat.le_of_ble_eq_true rfl) (fun C Y hl hret hthr => bk_X6_lot_0 C Y hl hret hthr hv)


theorem in_X6_make_3 : ∀ w ∈ wsX30, w ∈ wsX6_make := by first | exact fun w h => List.mem_cons_of_mem _ (List.mem_append_right _ h) | exact fun w h => List.mem_cons_of_mem _ (List.mem_append_left _ (List.mem_append_right _ h)) | decide +kernel
theorem in_X6_make_6 : ∀ w ∈ wsX60, w ∈ wsX6_make := by first | exact fun w h => List.mem_cons_of_mem _ (List.mem_append_right _ h) | exact fun w h => List.mem_cons_of_mem _ (List.mem_append_left _ (List.mem_append_right _ h)) | decide +kernel
theorem fl_X6_make_19 : Cond.fieldLink RX6 19 (TX6 1).1 (TX6 1).2.1 (TX6 1).2.2.1 ∈ wsX6_make := by decide +kernel
theorem fl_X6_make_105 : Cond.fieldLink RX6 105 (TX3 5).1 (TX3 5).2.1 (TX3 5).2.2.1 ∈ wsX6_make := by decide +kernel
theorem fl_X6_make_127 : Cond.fieldLink RX6 127 (TX3 7).1 (TX3 7).2.1 (TX3 7).2.2.1 ∈ wsX6_make := by decide +kernel
theorem th_X6_make_42 : zThr cX6_make RX6 wsX6_make "java/lang/IndexOutOfBoundsException" "no such lot" 82 120 86 42 := ⟨by decide +kernel, by decide +kernel, by decide +kernel, by decide +kernel, by decide +kernel, by decide +kernel, by decide +kernel, dX6_make_42, dX6_make_45, dX6_make_46, dX6_make_48, dX6_make_51⟩
theorem th_X6_make_77 : zThr cX6_make RX6 wsX6_make "java/lang/IllegalArgumentException" "n is none, or a lot is of another kind" 59 125 63 77 := ⟨by decide +kernel, by decide +kernel, by decide +kernel, by decide +kernel, by decide +kernel, by decide +kernel, by decide +kernel, dX6_make_77, dX6_make_80, dX6_make_81, dX6_make_83, dX6_make_86⟩
section
variable {p : Program} {l : Launch} {e : Env} {s : State} {m : MethodId} {args : Array Value} {below : List Frame} {meth : Method} {c : Code} {H : Heap} {locs : List Loc} {Q : State → Prop} {D : va_G} {cI cZ cJ : ClassId} {A : Nat → Prop} {ls : Array Slot}
def wp_X6_make_42 (Q1 : Int32 → (zSt × zSt × zSt × zSt × zSt × zSt) → Prop) (QX : String → (zSt × zSt × zSt × zSt × zSt × zSt) → Prop) (u0 : zSt) (u1 : zSt) (u2 : zSt) (u3 : zSt) (u4 : zSt) (u5 : zSt) : Prop :=
  QX "java/lang/IndexOutOfBoundsException" (u0, u1, u2, u3, u4, u5)

set_option maxHeartbeats 4000000 in
set_option maxRecDepth 100000 in
theorem bk_X6_make_42 {a : Nat → Nat → Nat} {Q1 : Int32 → (zSt × zSt × zSt × zSt × zSt × zSt) → Prop} {QX : String → (zSt × zSt × zSt × zSt × zSt × zSt) → Prop} {u0 : zSt} {u1 : zSt} {u2 : zSt} {u3 : zSt} {u4 : zSt} {u5 : zSt} (C : zCx p s m args c cX6_make 5 RX6 wsX6_make D cI cZ cJ A) (Y : zDy D A s.heap (k6 a cI cZ (u0, u1, u2, u3, u4, u5)) H locs) (hl : lv_has ls 5 []) (hret : ∀ {pc : Nat} {H : Heap} {locs : List Loc} {ls : Array Slot} {r : Int32} {u : zSt × zSt × zSt × zSt × zSt × zSt}, zDy D A s.heap ((fun u : zSt × zSt × zSt × zSt × zSt × zSt => k6 a cI cZ u) u) H locs → Q1 r u → decode cX6_make pc = .ok (.ireturn, 1) → W p l e ({ frames := 6, cells := 1, slots := 6, locals := 90 } : Room) s m args below meth c H locs 0 0 Q (F0 m pc ls [.int r])) (hthr : ∀ {pc : Nat} {H : Heap} {locs : List Loc} {ls : Array Slot} {rest : List Value} {u : zSt × zSt × zSt × zSt × zSt × zSt} {E text : String} {ik is ic : Nat}, zDy D A s.heap ((fun u : zSt × zSt × zSt × zSt × zSt × zSt => k6 a cI cZ u) u) H locs → QX E u → zThr cX6_make RX6 wsX6_make E text ik is ic pc → ls.size = 5 → (rest.map fun v => v.category).sum ≤ 8 → W p l e ({ frames := 6, cells := 1, slots := 6, locals := 90 } : Room) s m args below meth c H locs 0 0 Q (F0 m pc ls rest)) (hv : wp_X6_make_42 Q1 QX  u0 u1 u2 u3 u4 u5) : W p l e ({ frames := 6, cells := 1, slots := 6, locals := 90 } : Room) s m args below meth c H locs 0 0 Q (F0 m 42 ls []) := by
  unfold wp_X6_make_42 at hv
  obtain ⟨hx, hb, hml, hown, hts, hK, hA⟩ := id C
  exact hthr Y hv th_X6_make_42 hl.1 (Nat.le_of_ble_eq_true rfl)

def wp_X6_make_77 (Q1 : Int32 → (zSt × zSt × zSt × zSt × zSt × zSt) → Prop) (QX : String → (zSt × zSt × zSt × zSt × zSt × zSt) → Prop) (u0 : zSt) (u1 : zSt) (u2 : zSt) (u3 : zSt) (u4 : zSt) (u5 : zSt) : Prop :=
  QX "java/lang/IllegalArgumentException" (u0, u1, u2, u3, u4, u5)

set_option maxHeartbeats 4000000 in
set_option maxRecDepth 100000 in
theorem bk_X6_make_77 {a : Nat → Nat → Nat} {Q1 : Int32 → (zSt × zSt × zSt × zSt × zSt × zSt) → Prop} {QX : String → (zSt × zSt × zSt × zSt × zSt × zSt) → Prop} {u0 : zSt} {u1 : zSt} {u2 : zSt} {u3 : zSt} {u4 : zSt} {u5 : zSt} (C : zCx p s m args c cX6_make 5 RX6 wsX6_make D cI cZ cJ A) (Y : zDy D A s.heap (k6 a cI cZ (u0, u1, u2, u3, u4, u5)) H locs) (hl : lv_has ls 5 []) (hret : ∀ {pc : Nat} {H : Heap} {locs : List Loc} {ls : Array Slot} {r : Int32} {u : zSt × zSt × zSt × zSt × zSt × zSt}, zDy D A s.heap ((fun u : zSt × zSt × zSt × zSt × zSt × zSt => k6 a cI cZ u) u) H locs → Q1 r u → decode cX6_make pc = .ok (.ireturn, 1) → W p l e ({ frames := 6, cells := 1, slots := 6, locals := 90 } : Room) s m args below meth c H locs 0 0 Q (F0 m pc ls [.int r])) (hthr : ∀ {pc : Nat} {H : Heap} {locs : List Loc} {ls : Array Slot} {rest : List Value} {u : zSt × zSt × zSt × zSt × zSt × zSt} {E text : String} {ik is ic : Nat}, zDy D A s.heap ((fun u : zSt × zSt × zSt × zSt × zSt × zSt => k6 a cI cZ u) u) H locs → QX E u → zThr cX6_make RX6 wsX6_make E text ik is ic pc → ls.size = 5 → (rest.map fun v => v.category).sum ≤ 8 → W p l e ({ frames := 6, cells := 1, slots := 6, locals := 90 } : Room) s m args below meth c H locs 0 0 Q (F0 m pc ls rest)) (hv : wp_X6_make_77 Q1 QX  u0 u1 u2 u3 u4 u5) : W p l e ({ frames := 6, cells := 1, slots := 6, locals := 90 } : Room) s m args below meth c H locs 0 0 Q (F0 m 77 ls []) := by
  unfold wp_X6_make_77 at hv
  obtain ⟨hx, hb, hml, hown, hts, hK, hA⟩ := id C
  exact hthr Y hv th_X6_make_77 hl.1 (Nat.le_of_ble_eq_true rfl)

def wp_X6_make_0 (Q1 : Int32 → (zSt × zSt × zSt × zSt × zSt × zSt) → Prop) (QX : String → (zSt × zSt × zSt × zSt × zSt × zSt) → Prop) (p1 : Int32) (p2 : Int32) (p3 : Int32) (p4 : Int32) (u0 : zSt) (u1 : zSt) (u2 : zSt) (u3 : zSt) (u4 : zSt) (u5 : zSt) : Prop :=
  TX6_isNumberOf (fun (r_1 : Int32) (_ : Unit) => (r_1 = (0 : Int32) → wp_X6_make_42 Q1 QX  u0 u1 u2 u3 u4 u5) ∧ (¬ r_1 = (0 : Int32) → TX6_isNumberOf (fun (r_2 : Int32) (_ : Unit) => (r_2 = (0 : Int32) → wp_X6_make_42 Q1 QX  u0 u1 u2 u3 u4 u5) ∧ (¬ r_2 = (0 : Int32) → TX6_isNumberOf (fun (r_3 : Int32) (_ : Unit) => (r_3 = (0 : Int32) → wp_X6_make_42 Q1 QX  u0 u1 u2 u3 u4 u5) ∧ (¬ r_3 = (0 : Int32) → TX6_isWithin (fun (r_4 : Int32) (_ : Unit) => (r_4 = (0 : Int32) → wp_X6_make_77 Q1 QX  u0 u1 u2 u3 u4 u5) ∧ (¬ r_4 = (0 : Int32) → TX3_areOfTheirKinds (fun (r_6 : Int32) (u3_5 : zSt) => (r_6 = (0 : Int32) → wp_X6_make_77 Q1 QX  u0 u1 u2 u3_5 u4 u5) ∧ (¬ r_6 = (0 : Int32) → ((60 : Int32) ≤ (u3_5.1 7) → Q1 (-1) (u0, u1, u2, u3_5, u4, u5)) ∧ (¬ (60 : Int32) ≤ (u3_5.1 7) → TX3_haveAll (fun (r_8 : Int32) (u3_7 : zSt) => (r_8 = (0 : Int32) → Q1 (-1) (u0, u1, u2, u3_7, u4, u5)) ∧ (¬ r_8 = (0 : Int32) → TX3_addBatch (fun (r_10 : Int32) (u3_9 : zSt) => Q1 r_10 (u0, u1, u2, u3_9, u4, u5)) p1 p2 p3 p4 u3_7)) p1 p2 p3 p4 u3_5))) p1 p2 p3 u3)) p4 1 1000 )) p3 (u3.1 5) )) p2 (u3.1 5) )) p1 (u3.1 5) 

set_option maxHeartbeats 4000000 in
set_option maxRecDepth 100000 in
theorem bk_X6_make_0 {a : Nat → Nat → Nat} {Q1 : Int32 → (zSt × zSt × zSt × zSt × zSt × zSt) → Prop} {QX : String → (zSt × zSt × zSt × zSt × zSt × zSt) → Prop} {p1 : Int32} {p2 : Int32} {p3 : Int32} {p4 : Int32} {u0 : zSt} {u1 : zSt} {u2 : zSt} {u3 : zSt} {u4 : zSt} {u5 : zSt} (C : zCx p s m args c cX6_make 5 RX6 wsX6_make D cI cZ cJ A) (Y : zDy D A s.heap (k6 a cI cZ (u0, u1, u2, u3, u4, u5)) H locs) (hl : lv_has ls 5 [(0, .ref (a 6 99)), (1, .int p1), (2, .int p2), (3, .int p3), (4, .int p4)]) (hret : ∀ {pc : Nat} {H : Heap} {locs : List Loc} {ls : Array Slot} {r : Int32} {u : zSt × zSt × zSt × zSt × zSt × zSt}, zDy D A s.heap ((fun u : zSt × zSt × zSt × zSt × zSt × zSt => k6 a cI cZ u) u) H locs → Q1 r u → decode cX6_make pc = .ok (.ireturn, 1) → W p l e ({ frames := 6, cells := 1, slots := 6, locals := 90 } : Room) s m args below meth c H locs 0 0 Q (F0 m pc ls [.int r])) (hthr : ∀ {pc : Nat} {H : Heap} {locs : List Loc} {ls : Array Slot} {rest : List Value} {u : zSt × zSt × zSt × zSt × zSt × zSt} {E text : String} {ik is ic : Nat}, zDy D A s.heap ((fun u : zSt × zSt × zSt × zSt × zSt × zSt => k6 a cI cZ u) u) H locs → QX E u → zThr cX6_make RX6 wsX6_make E text ik is ic pc → ls.size = 5 → (rest.map fun v => v.category).sum ≤ 8 → W p l e ({ frames := 6, cells := 1, slots := 6, locals := 90 } : Room) s m args below meth c H locs 0 0 Q (F0 m pc ls rest)) (hv : wp_X6_make_0 Q1 QX p1 p2 p3 p4 u0 u1 u2 u3 u4 u5) : W p l e ({ frames := 6, cells := 1, slots := 6, locals := 90 } : Room) s m args below meth c H locs 0 0 Q (F0 m 0 ls []) := by
  unfold wp_X6_make_0 at hv
  obtain ⟨hx, hb, hml, hown, hts, hK, hA⟩ := id C
  refine lv_iload_n hx hb dX6_make_0 rfl (lv_at hl 1 rfl) ?_
  refine lv_aload_n hx hb dX6_make_1 rfl (lv_at hl 0 rfl) ?_
  refine z_get C Y (Cn := RX6) (T := TX6) (N := 6) in_X6_make_6 rfl (ge6_6 ..) 1 (by decide) fl_X6_make_19 rfl dX6_make_2 ?_
  refine z_get C Y (Cn := RX3) (T := TX3) (N := 9) in_X6_make_3 rfl (ge6_3 ..) 5 (by decide) fl_X6_make_105 rfl dX6_make_5 ?_
  refine z_callSi C Y (c_X6_isNumberOf l hv) (zFr.nil _) (va_cwS 2 hts gX6_make_X6_isNumberOf rfl rfl rfl (by decide +kernel) ⟨(Nat.le_of_ble_eq_true rfl), (Nat.le_of_ble_eq_true rfl)⟩) rfl hl.1 rfl (Nat.le_of_ble_eq_true rfl) dX6_make_8 ⟨Nat.zero_le _, Nat.zero_le _⟩ (fun r_1 _ H locs Y hv => ?_)
  refine lv_if_eq (tgt := 42) hx hb dX6_make_11 (by decide) (fun hc => ?_) (fun hc => ?_)
  · have hv := hv.1 hc
    exact bk_X6_make_42 C Y (lv_sub hl [] rfl) hret hthr hv
  · have hv := hv.2 hc
    refine lv_iload_n hx hb dX6_make_14 rfl (lv_at hl 2 rfl) ?_
    refine lv_aload_n hx hb dX6_make_15 rfl (lv_at hl 0 rfl) ?_
    refine z_get C Y (Cn := RX6) (T := TX6) (N := 6) in_X6_make_6 rfl (ge6_6 ..) 1 (by decide) fl_X6_make_19 rfl dX6_make_16 ?_
    refine z_get C Y (Cn := RX3) (T := TX3) (N := 9) in_X6_make_3 rfl (ge6_3 ..) 5 (by decide) fl_X6_make_105 rfl dX6_make_19 ?_
    refine z_callSi C Y (c_X6_isNumberOf l hv) (zFr.nil _) (va_cwS 2 hts gX6_make_X6_isNumberOf rfl rfl rfl (by decide +kernel) ⟨(Nat.le_of_ble_eq_true rfl), (Nat.le_of_ble_eq_true rfl)⟩) rfl hl.1 rfl (Nat.le_of_ble_eq_true rfl) dX6_make_22 ⟨Nat.zero_le _, Nat.zero_le _⟩ (fun r_2 _ H locs Y hv => ?_)
    refine lv_if_eq (tgt := 42) hx hb dX6_make_25 (by decide) (fun hc => ?_) (fun hc => ?_)
    · have hv := hv.1 hc
      exact bk_X6_make_42 C Y (lv_sub hl [] rfl) hret hthr hv
    · have hv := hv.2 hc
      refine lv_iload_n hx hb dX6_make_28 rfl (lv_at hl 3 rfl) ?_
      refine lv_aload_n hx hb dX6_make_29 rfl (lv_at hl 0 rfl) ?_
      refine z_get C Y (Cn := RX6) (T := TX6) (N := 6) in_X6_make_6 rfl (ge6_6 ..) 1 (by decide) fl_X6_make_19 rfl dX6_make_30 ?_
      refine z_get C Y (Cn := RX3) (T := TX3) (N := 9) in_X6_make_3 rfl (ge6_3 ..) 5 (by decide) fl_X6_make_105 rfl dX6_make_33 ?_
      refine z_callSi C Y (c_X6_isNumberOf l hv) (zFr.nil _) (va_cwS 2 hts gX6_make_X6_isNumberOf rfl rfl rfl (by decide +kernel) ⟨(Nat.le_of_ble_eq_true rfl), (Nat.le_of_ble_eq_true rfl)⟩) rfl hl.1 rfl (Nat.le_of_ble_eq_true rfl) dX6_make_36 ⟨Nat.zero_le _, Nat.zero_le _⟩ (fun r_3 _ H locs Y hv => ?_)
      refine lv_if_ne (tgt := 52) hx hb dX6_make_39 (by decide) (fun hc => ?_) (fun hc => ?_)
      · have hv := hv.2 hc
        refine lv_iload hx hb dX6_make_52 (lv_at hl 4 rfl) ?_
        refine lv_iconst (v := 1) hx hb dX6_make_54 (by decide) ?_
        refine lv_sipush (v := 1000) hx hb dX6_make_55 (by decide) ?_
        refine z_callSi C Y (c_X6_isWithin l hv) (zFr.nil _) (va_cwS 3 hts gX6_make_X6_isWithin rfl rfl rfl (by decide +kernel) ⟨(Nat.le_of_ble_eq_true rfl), (Nat.le_of_ble_eq_true rfl)⟩) rfl hl.1 rfl (Nat.le_of_ble_eq_true rfl) dX6_make_58 ⟨Nat.zero_le _, Nat.zero_le _⟩ (fun r_4 _ H locs Y hv => ?_)
        refine lv_if_eq (tgt := 77) hx hb dX6_make_61 (by decide) (fun hc => ?_) (fun hc => ?_)
        · have hv := hv.1 hc
          exact bk_X6_make_77 C Y (lv_sub hl [] rfl) hret hthr hv
        · have hv := hv.2 hc
          refine lv_aload_n hx hb dX6_make_64 rfl (lv_at hl 0 rfl) ?_
          refine z_get C Y (Cn := RX6) (T := TX6) (N := 6) in_X6_make_6 rfl (ge6_6 ..) 1 (by decide) fl_X6_make_19 rfl dX6_make_65 ?_
          refine lv_iload_n hx hb dX6_make_68 rfl (lv_at hl 1 rfl) ?_
          refine lv_iload_n hx hb dX6_make_69 rfl (lv_at hl 2 rfl) ?_
          refine lv_iload_n hx hb dX6_make_70 rfl (lv_at hl 3 rfl) ?_
          refine z_callVi C Y (c_X3_areOfTheirKinds l hv) (fr6_3 ..) (cwV 3 hts gX6_make_X3_areOfTheirKinds rfl rfl rfl (by decide +kernel) ⟨(Nat.le_of_ble_eq_true rfl), (Nat.le_of_ble_eq_true rfl)⟩) (ge3_3 ..) rfl rfl rfl hl.1 rfl (Nat.le_of_ble_eq_true rfl) dX6_make_71 ⟨Nat.zero_le _, Nat.zero_le _⟩ (fun r_6 u3_5 H locs Y hv => ?_)
          refine lv_if_ne (tgt := 87) hx hb dX6_make_74 (by decide) (fun hc => ?_) (fun hc => ?_)
          · have hv := hv.2 hc
            refine lv_aload_n hx hb dX6_make_87 rfl (lv_at hl 0 rfl) ?_
            refine z_get C Y (Cn := RX6) (T := TX6) (N := 6) in_X6_make_6 rfl (ge6_6 ..) 1 (by decide) fl_X6_make_19 rfl dX6_make_88 ?_
            refine z_get C Y (Cn := RX3) (T := TX3) (N := 9) in_X6_make_3 rfl (ge6_3 ..) 7 (by decide) fl_X6_make_127 rfl dX6_make_91 ?_
            refine lv_bipush (v := 60) hx hb dX6_make_94 (by decide) ?_
            refine lv_icmp_ge (tgt := 114) hx hb dX6_make_96 (by decide) (fun hc => ?_) (fun hc => ?_)
            · have hv := hv.1 hc
              refine lv_iconst (v := (-1)) hx hb dX6_make_114 (by decide) ?_
              exact hret Y hv dX6_make_115
            · have hv := hv.2 hc
              refine lv_aload_n hx hb dX6_make_99 rfl (lv_at hl 0 rfl) ?_
              refine z_get C Y (Cn := RX6) (T := TX6) (N := 6) in_X6_make_6 rfl (ge6_6 ..) 1 (by decide) fl_X6_make_19 rfl dX6_make_100 ?_
              refine lv_iload_n hx hb dX6_make_103 rfl (lv_at hl 1 rfl) ?_
              refine lv_iload_n hx hb dX6_make_104 rfl (lv_at hl 2 rfl) ?_
              refine lv_iload_n hx hb dX6_make_105 rfl (lv_at hl 3 rfl) ?_
              refine lv_iload hx hb dX6_make_106 (lv_at hl 4 rfl) ?_
              refine z_callVi C Y (c_X3_haveAll l hv) (fr6_3 ..) (cwV 4 hts gX6_make_X3_haveAll rfl rfl rfl (by decide +kernel) ⟨(Nat.le_of_ble_eq_true rfl), (Nat.le_of_ble_eq_true rfl)⟩) (ge3_3 ..) rfl rfl rfl hl.1 rfl (Nat.le_of_ble_eq_true rfl) dX6_make_108 ⟨Nat.zero_le _, Nat.zero_le _⟩ (fun r_8 u3_7 H locs Y hv => ?_)
              refine lv_if_ne (tgt := 116) hx hb dX6_make_111 (by decide) (fun hc => ?_) (fun hc => ?_)
              · have hv := hv.2 hc
                refine lv_aload_n hx hb dX6_make_116 rfl (lv_at hl 0 rfl) ?_
                refine z_get C Y (Cn := RX6) (T := TX6) (N := 6) in_X6_make_6 rfl (ge6_6 ..) 1 (by decide) fl_X6_make_19 rfl dX6_make_117 ?_
                refine lv_iload_n hx hb dX6_make_120 rfl (lv_at hl 1 rfl) ?_
                refine lv_iload_n hx hb dX6_make_121 rfl (lv_at hl 2 rfl) ?_
                refine lv_iload_n hx hb dX6_make_122 rfl (lv_at hl 3 rfl) ?_
                refine lv_iload hx hb dX6_make_123 (lv_at hl 4 rfl) ?_
                refine z_callVi C Y (c_X3_addBatch l hv) (fr6_3 ..) (cwV 4 hts gX6_make_X3_addBatch rfl rfl rfl (by decide +kernel) ⟨(Nat.le_of_ble_eq_true rfl), (Nat.le_of_ble_eq_true rfl)⟩) (ge3_3 ..) rfl rfl rfl hl.1 rfl (Nat.le_of_ble_eq_true rfl) dX6_make_125 ⟨Nat.zero_le _, Nat.zero_le _⟩ (fun r_10 u3_9 H locs Y hv => ?_)
                exact hret Y hv dX6_make_128
              · have hv := hv.1 hc
                refine lv_iconst (v := (-1)) hx hb dX6_make_114 (by decide) ?_
                exact hret Y hv dX6_make_115
          · have hv := hv.1 hc
            exact bk_X6_make_77 C Y (lv_sub hl [] rfl) hret hthr hv
      · have hv := hv.1 hc
        exact bk_X6_make_42 C Y (lv_sub hl [] rfl) hret hthr hv

end
abbrev TX6_make := wp_X6_make_0
set_option maxHeartbeats 4000000 in
set_option maxRecDepth 100000 in
theorem c_X6_make (l : Launch) {D : va_G} {cI cZ cJ : ClassId} {a : Nat → Nat → Nat} (hlt : l.stackTraces = false) {Q1 : Int32 → (zSt × zSt × zSt × zSt × zSt × zSt) → Prop} {QX : String → (zSt × zSt × zSt × zSt × zSt × zSt) → Prop} {p1 : Int32} {p2 : Int32} {p3 : Int32} {p4 : Int32} {u0 : zSt} {u1 : zSt} {u2 : zSt} {u3 : zSt} {u4 : zSt} {u5 : zSt} (hv : wp_X6_make_0 Q1 QX p1 p2 p3 p4 u0 u1 u2 u3 u4 u5) : zXI l yX6_make wsX6_make ({ frames := 6, cells := 1, slots := 6, locals := 90 } : Room) D cI cZ cJ [.ref (a 6 99), .int p1, .int p2, .int p3, .int p4] (k6 a cI cZ (u0, u1, u2, u3, u4, u5)) (fun u : zSt × zSt × zSt × zSt × zSt × zSt => k6 a cI cZ u) Q1 QX :=
  z_ofXI hlt ⟨Nat.le_of_ble_eq_true rfl, Nat.le_of_ble_eq_true rfl, Nat.le_of_ble_eq_true rfl, Nat.le_of_ble_eq_true rfl⟩ (by decide) rfl rfl (Nat.le_of_ble_eq_true rfl) (fun C Y hl hret hthr => bk_X6_make_0 C Y hl hret hthr hv)


theorem in_X6_look_3 : ∀ w ∈ wsX30, w ∈ wsX6_look := by first | exact fun w h => List.mem_cons_of_mem _ (List.mem_append_right _ h) | exact fun w h => List.mem_cons_of_mem _ (List.mem_append_left _ (List.mem_append_right _ h)) | decide +kernel
theorem in_X6_look_5 : ∀ w ∈ wsX50, w ∈ wsX6_look := by first | exact fun w h => List.mem_cons_of_mem _ (List.mem_append_right _ h) | exact fun w h => List.mem_cons_of_mem _ (List.mem_append_left _ (List.mem_append_right _ h)) | decide +kernel
theorem in_X6_look_6 : ∀ w ∈ wsX60, w ∈ wsX6_look := by first | exact fun w h => List.mem_cons_of_mem _ (List.mem_append_right _ h) | exact fun w h => List.mem_cons_of_mem _ (List.mem_append_left _ (List.mem_append_right _ h)) | decide +kernel
theorem fl_X6_look_19 : Cond.fieldLink RX6 19 (TX6 1).1 (TX6 1).2.1 (TX6 1).2.2.1 ∈ wsX6_look := by decide +kernel
theorem fl_X6_look_26 : Cond.fieldLink RX6 26 (TX6 2).1 (TX6 2).2.1 (TX6 2).2.2.1 ∈ wsX6_look := by decide +kernel
theorem fl_X6_look_105 : Cond.fieldLink RX6 105 (TX3 5).1 (TX3 5).2.1 (TX3 5).2.2.1 ∈ wsX6_look := by decide +kernel
theorem fl_X6_look_137 : Cond.fieldLink RX6 137 (TX3 0).1 (TX3 0).2.1 (TX3 0).2.2.1 ∈ wsX6_look := by decide +kernel
theorem fl_X6_look_140 : Cond.fieldLink RX6 140 (TX3 1).1 (TX3 1).2.1 (TX3 1).2.2.1 ∈ wsX6_look := by decide +kernel
theorem fl_X6_look_143 : Cond.fieldLink RX6 143 (TX3 2).1 (TX3 2).2.1 (TX3 2).2.2.1 ∈ wsX6_look := by decide +kernel
theorem fl_X6_look_146 : Cond.fieldLink RX6 146 (TX3 3).1 (TX3 3).2.1 (TX3 3).2.2.1 ∈ wsX6_look := by decide +kernel
theorem fl_X6_look_149 : Cond.fieldLink RX6 149 (TX3 4).1 (TX3 4).2.1 (TX3 4).2.2.1 ∈ wsX6_look := by decide +kernel
theorem fl_X6_look_152 : Cond.fieldLink RX6 152 (TX5 5).1 (TX5 5).2.1 (TX5 5).2.2.1 ∈ wsX6_look := by decide +kernel
theorem th_X6_look_14 : zThr cX6_look RX6 wsX6_look "java/lang/IndexOutOfBoundsException" "no such lot" 82 120 86 14 := ⟨by decide +kernel, by decide +kernel, by decide +kernel, by decide +kernel, by decide +kernel, by decide +kernel, by decide +kernel, dX6_look_14, dX6_look_17, dX6_look_18, dX6_look_20, dX6_look_23⟩
theorem th_X6_look_138 : zThr cX6_look RX6 wsX6_look "java/util/NoSuchElementException" "no such what" 163 165 167 138 := ⟨by decide +kernel, by decide +kernel, by decide +kernel, by decide +kernel, by decide +kernel, by decide +kernel, by decide +kernel, dX6_look_138, dX6_look_141, dX6_look_142, dX6_look_144, dX6_look_147⟩
section
variable {p : Program} {l : Launch} {e : Env} {s : State} {m : MethodId} {args : Array Value} {below : List Frame} {meth : Method} {c : Code} {H : Heap} {locs : List Loc} {Q : State → Prop} {D : va_G} {cI cZ cJ : ClassId} {A : Nat → Prop} {ls : Array Slot}
def wp_X6_look_0 (Q1 : Int32 → (zSt × zSt × zSt × zSt × zSt × zSt) → Prop) (QX : String → (zSt × zSt × zSt × zSt × zSt × zSt) → Prop) (p1 : Int32) (p2 : Int32) (u0 : zSt) (u1 : zSt) (u2 : zSt) (u3 : zSt) (u4 : zSt) (u5 : zSt) : Prop :=
  TX6_isNumberOf (fun (r_1 : Int32) (_ : Unit) => (r_1 = (0 : Int32) → QX "java/lang/IndexOutOfBoundsException" (u0, u1, u2, u3, u4, u5)) ∧ (¬ r_1 = (0 : Int32) → ∀ t_2 : Int32, t_2 = p2 → (t_2 = 0 → vp_in p1 12 ∧ (Q1 (u3.2 0 p1.toNatClampNeg) (u0, u1, u2, u3, u4, u5))) ∧ (¬ t_2 = 0 → (t_2 = 1 → vp_in p1 12 ∧ (Q1 (u3.2 1 p1.toNatClampNeg) (u0, u1, u2, u3, u4, u5))) ∧ (¬ t_2 = 1 → (t_2 = 2 → vp_in p1 12 ∧ (Q1 (u3.2 2 p1.toNatClampNeg) (u0, u1, u2, u3, u4, u5))) ∧ (¬ t_2 = 2 → (t_2 = 3 → vp_in p1 12 ∧ (Q1 (u3.2 3 p1.toNatClampNeg) (u0, u1, u2, u3, u4, u5))) ∧ (¬ t_2 = 3 → (t_2 = 4 → vp_in p1 12 ∧ (Q1 (u3.2 4 p1.toNatClampNeg) (u0, u1, u2, u3, u4, u5))) ∧ (¬ t_2 = 4 → (t_2 = 5 → TX5_batchesThat (fun (r_4 : Int64) (u5_3 : zSt) => TX3_batchesOf (fun (r_6 : Int32) (u3_5 : zSt) => Q1 r_6 (u0, u1, u2, u3_5, u4, u5_3)) p1 r_4 u3) 1 (u5.1 5) u5) ∧ (¬ t_2 = 5 → QX "java/util/NoSuchElementException" (u0, u1, u2, u3, u4, u5))))))))) p1 (u3.1 5) 

set_option maxHeartbeats 4000000 in
set_option maxRecDepth 100000 in
theorem bk_X6_look_0 {a : Nat → Nat → Nat} {Q1 : Int32 → (zSt × zSt × zSt × zSt × zSt × zSt) → Prop} {QX : String → (zSt × zSt × zSt × zSt × zSt × zSt) → Prop} {p1 : Int32} {p2 : Int32} {u0 : zSt} {u1 : zSt} {u2 : zSt} {u3 : zSt} {u4 : zSt} {u5 : zSt} (C : zCx p s m args c cX6_look 3 RX6 wsX6_look D cI cZ cJ A) (Y : zDy D A s.heap (k6 a cI cZ (u0, u1, u2, u3, u4, u5)) H locs) (hl : lv_has ls 3 [(0, .ref (a 6 99)), (1, .int p1), (2, .int p2)]) (hret : ∀ {pc : Nat} {H : Heap} {locs : List Loc} {ls : Array Slot} {r : Int32} {u : zSt × zSt × zSt × zSt × zSt × zSt}, zDy D A s.heap ((fun u : zSt × zSt × zSt × zSt × zSt × zSt => k6 a cI cZ u) u) H locs → Q1 r u → decode cX6_look pc = .ok (.ireturn, 1) → W p l e ({ frames := 6, cells := 1, slots := 6, locals := 90 } : Room) s m args below meth c H locs 0 0 Q (F0 m pc ls [.int r])) (hthr : ∀ {pc : Nat} {H : Heap} {locs : List Loc} {ls : Array Slot} {rest : List Value} {u : zSt × zSt × zSt × zSt × zSt × zSt} {E text : String} {ik is ic : Nat}, zDy D A s.heap ((fun u : zSt × zSt × zSt × zSt × zSt × zSt => k6 a cI cZ u) u) H locs → QX E u → zThr cX6_look RX6 wsX6_look E text ik is ic pc → ls.size = 3 → (rest.map fun v => v.category).sum ≤ 8 → W p l e ({ frames := 6, cells := 1, slots := 6, locals := 90 } : Room) s m args below meth c H locs 0 0 Q (F0 m pc ls rest)) (hv : wp_X6_look_0 Q1 QX p1 p2 u0 u1 u2 u3 u4 u5) : W p l e ({ frames := 6, cells := 1, slots := 6, locals := 90 } : Room) s m args below meth c H locs 0 0 Q (F0 m 0 ls []) := by
  unfold wp_X6_look_0 at hv
  obtain ⟨hx, hb, hml, hown, hts, hK, hA⟩ := id C
  refine lv_iload_n hx hb dX6_look_0 rfl (lv_at hl 1 rfl) ?_
  refine lv_aload_n hx hb dX6_look_1 rfl (lv_at hl 0 rfl) ?_
  refine z_get C Y (Cn := RX6) (T := TX6) (N := 6) in_X6_look_6 rfl (ge6_6 ..) 1 (by decide) fl_X6_look_19 rfl dX6_look_2 ?_
  refine z_get C Y (Cn := RX3) (T := TX3) (N := 9) in_X6_look_3 rfl (ge6_3 ..) 5 (by decide) fl_X6_look_105 rfl dX6_look_5 ?_
  refine z_callSi C Y (c_X6_isNumberOf l hv) (zFr.nil _) (va_cwS 2 hts gX6_look_X6_isNumberOf rfl rfl rfl (by decide +kernel) ⟨(Nat.le_of_ble_eq_true rfl), (Nat.le_of_ble_eq_true rfl)⟩) rfl hl.1 rfl (Nat.le_of_ble_eq_true rfl) dX6_look_8 ⟨Nat.zero_le _, Nat.zero_le _⟩ (fun r_1 _ H locs Y hv => ?_)
  refine lv_if_ne (tgt := 24) hx hb dX6_look_11 (by decide) (fun hc => ?_) (fun hc => ?_)
  · have hv := hv.2 hc
    refine lv_iload_n hx hb dX6_look_24 rfl (lv_at hl 2 rfl) ?_
    refine z_topi hv (fun t_2 et_2 hv => ?_)
    by_cases h0_25 : t_2 = 0
    · have hv := hv.1 h0_25
      rw [h0_25]
      refine lv_tableIn (off := 39) (tgt := 64) hx hb dX6_look_25 (by decide) (by decide) (by decide) (by decide) ?_
      refine lv_aload_n hx hb dX6_look_64 rfl (lv_at hl 0 rfl) ?_
      refine z_get C Y (Cn := RX6) (T := TX6) (N := 6) in_X6_look_6 rfl (ge6_6 ..) 1 (by decide) fl_X6_look_19 rfl dX6_look_65 ?_
      refine z_get C Y (Cn := RX3) (T := TX3) (N := 9) in_X6_look_3 rfl (ge6_3 ..) 0 (by decide) fl_X6_look_137 rfl dX6_look_68 ?_
      refine lv_iload_n hx hb dX6_look_71 rfl (lv_at hl 1 rfl) ?_
      obtain ⟨hi, hv⟩ := hv
      refine z_ldI C Y (pa6_3_0 ..) hi dX6_look_72 ?_
      exact hret Y hv dX6_look_73
    replace hv := hv.2 h0_25
    by_cases h1_25 : t_2 = 1
    · have hv := hv.1 h1_25
      rw [h1_25]
      refine lv_tableIn (off := 49) (tgt := 74) hx hb dX6_look_25 (by decide) (by decide) (by decide) (by decide) ?_
      refine lv_aload_n hx hb dX6_look_74 rfl (lv_at hl 0 rfl) ?_
      refine z_get C Y (Cn := RX6) (T := TX6) (N := 6) in_X6_look_6 rfl (ge6_6 ..) 1 (by decide) fl_X6_look_19 rfl dX6_look_75 ?_
      refine z_get C Y (Cn := RX3) (T := TX3) (N := 9) in_X6_look_3 rfl (ge6_3 ..) 1 (by decide) fl_X6_look_140 rfl dX6_look_78 ?_
      refine lv_iload_n hx hb dX6_look_81 rfl (lv_at hl 1 rfl) ?_
      obtain ⟨hi, hv⟩ := hv
      refine z_ldI C Y (pa6_3_1 ..) hi dX6_look_82 ?_
      exact hret Y hv dX6_look_83
    replace hv := hv.2 h1_25
    by_cases h2_25 : t_2 = 2
    · have hv := hv.1 h2_25
      rw [h2_25]
      refine lv_tableIn (off := 59) (tgt := 84) hx hb dX6_look_25 (by decide) (by decide) (by decide) (by decide) ?_
      refine lv_aload_n hx hb dX6_look_84 rfl (lv_at hl 0 rfl) ?_
      refine z_get C Y (Cn := RX6) (T := TX6) (N := 6) in_X6_look_6 rfl (ge6_6 ..) 1 (by decide) fl_X6_look_19 rfl dX6_look_85 ?_
      refine z_get C Y (Cn := RX3) (T := TX3) (N := 9) in_X6_look_3 rfl (ge6_3 ..) 2 (by decide) fl_X6_look_143 rfl dX6_look_88 ?_
      refine lv_iload_n hx hb dX6_look_91 rfl (lv_at hl 1 rfl) ?_
      obtain ⟨hi, hv⟩ := hv
      refine z_ldI C Y (pa6_3_2 ..) hi dX6_look_92 ?_
      exact hret Y hv dX6_look_93
    replace hv := hv.2 h2_25
    by_cases h3_25 : t_2 = 3
    · have hv := hv.1 h3_25
      rw [h3_25]
      refine lv_tableIn (off := 69) (tgt := 94) hx hb dX6_look_25 (by decide) (by decide) (by decide) (by decide) ?_
      refine lv_aload_n hx hb dX6_look_94 rfl (lv_at hl 0 rfl) ?_
      refine z_get C Y (Cn := RX6) (T := TX6) (N := 6) in_X6_look_6 rfl (ge6_6 ..) 1 (by decide) fl_X6_look_19 rfl dX6_look_95 ?_
      refine z_get C Y (Cn := RX3) (T := TX3) (N := 9) in_X6_look_3 rfl (ge6_3 ..) 3 (by decide) fl_X6_look_146 rfl dX6_look_98 ?_
      refine lv_iload_n hx hb dX6_look_101 rfl (lv_at hl 1 rfl) ?_
      obtain ⟨hi, hv⟩ := hv
      refine z_ldI C Y (pa6_3_3 ..) hi dX6_look_102 ?_
      exact hret Y hv dX6_look_103
    replace hv := hv.2 h3_25
    by_cases h4_25 : t_2 = 4
    · have hv := hv.1 h4_25
      rw [h4_25]
      refine lv_tableIn (off := 79) (tgt := 104) hx hb dX6_look_25 (by decide) (by decide) (by decide) (by decide) ?_
      refine lv_aload_n hx hb dX6_look_104 rfl (lv_at hl 0 rfl) ?_
      refine z_get C Y (Cn := RX6) (T := TX6) (N := 6) in_X6_look_6 rfl (ge6_6 ..) 1 (by decide) fl_X6_look_19 rfl dX6_look_105 ?_
      refine z_get C Y (Cn := RX3) (T := TX3) (N := 9) in_X6_look_3 rfl (ge6_3 ..) 4 (by decide) fl_X6_look_149 rfl dX6_look_108 ?_
      refine lv_iload_n hx hb dX6_look_111 rfl (lv_at hl 1 rfl) ?_
      obtain ⟨hi, hv⟩ := hv
      refine z_ldI C Y (pa6_3_4 ..) hi dX6_look_112 ?_
      exact hret Y hv dX6_look_113
    replace hv := hv.2 h4_25
    by_cases h5_25 : t_2 = 5
    · have hv := hv.1 h5_25
      rw [h5_25]
      refine lv_tableIn (off := 89) (tgt := 114) hx hb dX6_look_25 (by decide) (by decide) (by decide) (by decide) ?_
      refine lv_aload_n hx hb dX6_look_114 rfl (lv_at hl 0 rfl) ?_
      refine z_get C Y (Cn := RX6) (T := TX6) (N := 6) in_X6_look_6 rfl (ge6_6 ..) 1 (by decide) fl_X6_look_19 rfl dX6_look_115 ?_
      refine lv_iload_n hx hb dX6_look_118 rfl (lv_at hl 1 rfl) ?_
      refine lv_aload_n hx hb dX6_look_119 rfl (lv_at hl 0 rfl) ?_
      refine z_get C Y (Cn := RX6) (T := TX6) (N := 6) in_X6_look_6 rfl (ge6_6 ..) 2 (by decide) fl_X6_look_26 rfl dX6_look_120 ?_
      refine lv_iconst (v := 1) hx hb dX6_look_123 (by decide) ?_
      refine lv_aload_n hx hb dX6_look_124 rfl (lv_at hl 0 rfl) ?_
      refine z_get C Y (Cn := RX6) (T := TX6) (N := 6) in_X6_look_6 rfl (ge6_6 ..) 2 (by decide) fl_X6_look_26 rfl dX6_look_125 ?_
      refine z_get C Y (Cn := RX5) (T := TX5) (N := 6) in_X6_look_5 rfl (ge6_5 ..) 5 (by decide) fl_X6_look_152 rfl dX6_look_128 ?_
      refine z_callVl C Y (c_X5_batchesThat l hv) (fr6_5 ..) (cwV 2 hts gX6_look_X5_batchesThat rfl rfl rfl (by decide +kernel) ⟨(Nat.le_of_ble_eq_true rfl), (Nat.le_of_ble_eq_true rfl)⟩) (ge5_5 ..) rfl rfl rfl hl.1 rfl (Nat.le_of_ble_eq_true rfl) dX6_look_131 ⟨Nat.zero_le _, Nat.zero_le _⟩ (fun r_4 u5_3 H locs Y hv => ?_)
      refine z_callVi C Y (c_X3_batchesOf l hv) (fr6_3 ..) (cwV 2 hts gX6_look_X3_batchesOf rfl rfl rfl (by decide +kernel) ⟨(Nat.le_of_ble_eq_true rfl), (Nat.le_of_ble_eq_true rfl)⟩) (ge3_3 ..) rfl rfl rfl hl.1 rfl (Nat.le_of_ble_eq_true rfl) dX6_look_134 ⟨Nat.zero_le _, Nat.zero_le _⟩ (fun r_6 u3_5 H locs Y hv => ?_)
      exact hret Y hv dX6_look_137
    replace hv := hv.2 h5_25
    refine lv_tableOut (tgt := 138) hx hb dX6_look_25 (by have q0 := lv_neT h0_25 (a := 0) (by decide); have q1 := lv_neT h1_25 (a := 1) (by decide); have q2 := lv_neT h2_25 (a := 2) (by decide); have q3 := lv_neT h3_25 (a := 3) (by decide); have q4 := lv_neT h4_25 (a := 4) (by decide); have q5 := lv_neT h5_25 (a := 5) (by decide); omega) (by decide) ?_
    exact hthr Y hv th_X6_look_138 hl.1 (Nat.le_of_ble_eq_true rfl)
  · have hv := hv.1 hc
    exact hthr Y hv th_X6_look_14 hl.1 (Nat.le_of_ble_eq_true rfl)

end
abbrev TX6_look := wp_X6_look_0
set_option maxHeartbeats 4000000 in
set_option maxRecDepth 100000 in
theorem c_X6_look (l : Launch) {D : va_G} {cI cZ cJ : ClassId} {a : Nat → Nat → Nat} (hlt : l.stackTraces = false) {Q1 : Int32 → (zSt × zSt × zSt × zSt × zSt × zSt) → Prop} {QX : String → (zSt × zSt × zSt × zSt × zSt × zSt) → Prop} {p1 : Int32} {p2 : Int32} {u0 : zSt} {u1 : zSt} {u2 : zSt} {u3 : zSt} {u4 : zSt} {u5 : zSt} (hv : wp_X6_look_0 Q1 QX p1 p2 u0 u1 u2 u3 u4 u5) : zXI l yX6_look wsX6_look ({ frames := 6, cells := 1, slots := 6, locals := 90 } : Room) D cI cZ cJ [.ref (a 6 99), .int p1, .int p2] (k6 a cI cZ (u0, u1, u2, u3, u4, u5)) (fun u : zSt × zSt × zSt × zSt × zSt × zSt => k6 a cI cZ u) Q1 QX :=
  z_ofXI hlt ⟨Nat.le_of_ble_eq_true rfl, Nat.le_of_ble_eq_true rfl, Nat.le_of_ble_eq_true rfl, Nat.le_of_ble_eq_true rfl⟩ (by decide) rfl rfl (Nat.le_of_ble_eq_true rfl) (fun C Y hl hret hthr => bk_X6_look_0 C Y hl hret hthr hv)


