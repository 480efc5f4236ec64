theorem in_X1_add_1 : ∀ w ∈ wsX10, w ∈ wsX1_add := by first | exact fun w h => List.mem_cons_of_mem _ (List.mem_append_right _ h) | exact fun w h => List.mem_cons_of_mem _ (List.mem_append_left _ (List.mem_append_right _ h)) | decide +kernel
theorem fl_X1_add_9 : Cond.fieldLink RX1 9 (TX1 0).1 (TX1 0).2.1 (TX1 0).2.2.1 ∈ wsX1_add := by decide +kernel
theorem fl_X1_add_15 : Cond.fieldLink RX1 15 (TX1 1).1 (TX1 1).2.1 (TX1 1).2.2.1 ∈ wsX1_add := by decide +kernel
theorem fl_X1_add_18 : Cond.fieldLink RX1 18 (TX1 2).1 (TX1 2).2.1 (TX1 2).2.2.1 ∈ wsX1_add := by decide +kernel
theorem fl_X1_add_21 : Cond.fieldLink RX1 21 (TX1 3).1 (TX1 3).2.1 (TX1 3).2.2.1 ∈ wsX1_add := by decide +kernel
theorem fl_X1_add_46 : Cond.fieldLink RX1 46 (TX1 4).1 (TX1 4).2.1 (TX1 4).2.2.1 ∈ wsX1_add := by decide +kernel
section
variable {p : Program} {l : Launch} {e : Env} {s : State} {m : MethodId} {args : Array Value} {below : List Frame} {meth : Method} {c : Code} {H : Heap} {locs : List Loc} {Q : State → Prop} {D : va_G} {cI cZ cJ : ClassId} {A : Nat → Prop} {ls : Array Slot}
def wp_X1_add_0 (Q1 : Int32 → zSt → Prop) (p1 : Int32) (p2 : Int32) (p3 : Int32) (p4 : Int32) (u1 : zSt) : Prop :=
  ∀ x5_1 : Int32, x5_1 = (u1.1 4) → vp_in x5_1 6 ∧ (∀ u1_2 : zSt, u1_2 = zA u1 0 (upd (u1.2 0) x5_1.toNatClampNeg p1) → vp_in x5_1 6 ∧ (∀ u1_3 : zSt, u1_3 = zA u1_2 1 (upd (u1_2.2 1) x5_1.toNatClampNeg p2) → vp_in x5_1 6 ∧ (∀ u1_4 : zSt, u1_4 = zA u1_3 2 (upd (u1_3.2 2) x5_1.toNatClampNeg p3) → vp_in x5_1 6 ∧ (∀ u1_5 : zSt, u1_5 = zA u1_4 3 (upd (u1_4.2 3) x5_1.toNatClampNeg p4) → ∀ u1_6 : zSt, u1_6 = zI u1_5 4 ((u1_5.1 4) + 1) → Q1 x5_1 u1_6))))

set_option maxHeartbeats 4000000 in
set_option maxRecDepth 100000 in
theorem bk_X1_add_0 {a : Nat → Nat → Nat} {Q1 : Int32 → zSt → Prop} {p1 : Int32} {p2 : Int32} {p3 : Int32} {p4 : Int32} {u1 : zSt} (C : zCx p s m args c cX1_add 6 RX1 wsX1_add D cI cZ cJ A) (Y : zDy D A s.heap (k1 a cI cZ u1) H locs) (hl : lv_has ls 6 [(0, .ref (a 1 99)), (1, .int p1), (2, .int p2), (3, .int p3), (4, .int p4)]) (hret : ∀ {pc : Nat} {H : Heap} {locs : List Loc} {ls : Array Slot} {r : Int32} {u : zSt}, zDy D A s.heap ((fun u : zSt => k1 a cI cZ u) u) H locs → Q1 r u → decode cX1_add pc = .ok (.ireturn, 1) → W p l e ({ frames := 0, cells := 0, slots := 0, locals := 0 } : Room) s m args below meth c H locs 0 0 Q (F0 m pc ls [.int r])) (hv : wp_X1_add_0 Q1 p1 p2 p3 p4 u1) : W p l e ({ frames := 0, cells := 0, slots := 0, locals := 0 } : Room) s m args below meth c H locs 0 0 Q (F0 m 0 ls []) := by
  unfold wp_X1_add_0 at hv
  obtain ⟨hx, hb, hml, hown, hts, hK, hA⟩ := id C
  refine lv_aload_n hx hb dX1_add_0 rfl (lv_at hl 0 rfl) ?_
  refine z_get C Y (Cn := RX1) (T := TX1) (N := 16) in_X1_add_1 rfl (ge1_1 ..) 4 (by decide) fl_X1_add_46 rfl dX1_add_1 ?_
  refine z_topi hv (fun x5_1 ex5_1 hv => ?_)
  refine lv_istore (lv' := [(5, .int x5_1), (0, .ref (a 1 99)), (1, .int p1), (2, .int p2), (3, .int p3), (4, .int p4)]) hx hb dX1_add_4 hl (by decide) rfl (fun ls hl => ?_)
  refine lv_aload_n hx hb dX1_add_6 rfl (lv_at hl 1 rfl) ?_
  refine z_get C Y (Cn := RX1) (T := TX1) (N := 16) in_X1_add_1 rfl (ge1_1 ..) 0 (by decide) fl_X1_add_9 rfl dX1_add_7 ?_
  refine lv_iload hx hb dX1_add_10 (lv_at hl 0 rfl) ?_
  refine lv_iload_n hx hb dX1_add_12 rfl (lv_at hl 2 rfl) ?_
  obtain ⟨hi, hv⟩ := hv
  refine z_stI C Y (pa1_1_0 ..) (sa1_1_0 ..) hi dX1_add_13 (fun H locs Y => ?_)
  obtain ⟨u1_2, eu1_2, Y, hv⟩ := z_nm (kf := fun z => (k1 a cI cZ z)) Y hv
  refine lv_aload_n hx hb dX1_add_14 rfl (lv_at hl 1 rfl) ?_
  refine z_get C Y (Cn := RX1) (T := TX1) (N := 16) in_X1_add_1 rfl (ge1_1 ..) 1 (by decide) fl_X1_add_15 rfl dX1_add_15 ?_
  refine lv_iload hx hb dX1_add_18 (lv_at hl 0 rfl) ?_
  refine lv_iload_n hx hb dX1_add_20 rfl (lv_at hl 3 rfl) ?_
  obtain ⟨hi, hv⟩ := hv
  refine z_stI C Y (pa1_1_1 ..) (sa1_1_1 ..) hi dX1_add_21 (fun H locs Y => ?_)
  obtain ⟨u1_3, eu1_3, Y, hv⟩ := z_nm (kf := fun z => (k1 a cI cZ z)) Y hv
  refine lv_aload_n hx hb dX1_add_22 rfl (lv_at hl 1 rfl) ?_
  refine z_get C Y (Cn := RX1) (T := TX1) (N := 16) in_X1_add_1 rfl (ge1_1 ..) 2 (by decide) fl_X1_add_18 rfl dX1_add_23 ?_
  refine lv_iload hx hb dX1_add_26 (lv_at hl 0 rfl) ?_
  refine lv_iload_n hx hb dX1_add_28 rfl (lv_at hl 4 rfl) ?_
  obtain ⟨hi, hv⟩ := hv
  refine z_stI C Y (pa1_1_2 ..) (sa1_1_2 ..) hi dX1_add_29 (fun H locs Y => ?_)
  obtain ⟨u1_4, eu1_4, Y, hv⟩ := z_nm (kf := fun z => (k1 a cI cZ z)) Y hv
  refine lv_aload_n hx hb dX1_add_30 rfl (lv_at hl 1 rfl) ?_
  refine z_get C Y (Cn := RX1) (T := TX1) (N := 16) in_X1_add_1 rfl (ge1_1 ..) 3 (by decide) fl_X1_add_21 rfl dX1_add_31 ?_
  refine lv_iload hx hb dX1_add_34 (lv_at hl 0 rfl) ?_
  refine lv_iload hx hb dX1_add_36 (lv_at hl 5 rfl) ?_
  obtain ⟨hi, hv⟩ := hv
  refine z_stI C Y (pa1_1_3 ..) (sa1_1_3 ..) hi dX1_add_38 (fun H locs Y => ?_)
  obtain ⟨u1_5, eu1_5, Y, hv⟩ := z_nm (kf := fun z => (k1 a cI cZ z)) Y hv
  refine lv_aload_n hx hb dX1_add_39 rfl (lv_at hl 1 rfl) ?_
  refine lv_dup hx hb dX1_add_40 rfl ?_
  refine z_get C Y (Cn := RX1) (T := TX1) (N := 16) in_X1_add_1 rfl (ge1_1 ..) 4 (by decide) fl_X1_add_46 rfl dX1_add_41 ?_
  refine lv_iconst (v := 1) hx hb dX1_add_44 (by decide) ?_
  refine lv_iadd hx hb dX1_add_45 ?_
  refine z_putI C Y (Cn := RX1) (T := TX1) (N := 16) in_X1_add_1 rfl tyX1 tyX1_ok nmX1 (ge1_1 ..) 4 (by decide) fl_X1_add_46 rfl (by decide +kernel) (Nat.le_of_ble_eq_true rfl) (si1_1_4 ..) dX1_add_46 (fun H locs Y => ?_)
  obtain ⟨u1_6, eu1_6, Y, hv⟩ := z_nm (kf := fun z => (k1 a cI cZ z)) Y hv
  refine lv_iload hx hb dX1_add_49 (lv_at hl 0 rfl) ?_
  exact hret Y hv dX1_add_51

end
abbrev TX1_add := wp_X1_add_0
set_option maxHeartbeats 4000000 in
set_option maxRecDepth 100000 in
theorem c_X1_add (l : Launch) {D : va_G} {cI cZ cJ : ClassId} {a : Nat → Nat → Nat} {Q1 : Int32 → zSt → Prop} {p1 : Int32} {p2 : Int32} {p3 : Int32} {p4 : Int32} {u1 : zSt} (hv : wp_X1_add_0 Q1 p1 p2 p3 p4 u1) : zMI l yX1_add wsX1_add ({ frames := 0, cells := 0, slots := 0, locals := 0 } : Room) D cI cZ cJ [.ref (a 1 99), .int p1, .int p2, .int p3, .int p4] (k1 a cI cZ u1) (fun u : zSt => k1 a cI cZ u) Q1 :=
  z_ofI (by decide) rfl rfl (Nat.le_of_ble_eq_true rfl) (fun C Y hl hret => bk_X1_add_0 C Y hl hret hv)


theorem in_X1_takeBest_1 : ∀ w ∈ wsX10, w ∈ wsX1_takeBest := by first | exact fun w h => List.mem_cons_of_mem _ (List.mem_append_right _ h) | exact fun w h => List.mem_cons_of_mem _ (List.mem_append_left _ (List.mem_append_right _ h)) | decide +kernel
theorem fl_X1_takeBest_21 : Cond.fieldLink RX1 21 (TX1 3).1 (TX1 3).2.1 (TX1 3).2.2.1 ∈ wsX1_takeBest := by decide +kernel
theorem fl_X1_takeBest_24 : Cond.fieldLink RX1 24 (TX1 5).1 (TX1 5).2.1 (TX1 5).2.2.1 ∈ wsX1_takeBest := by decide +kernel
theorem fl_X1_takeBest_46 : Cond.fieldLink RX1 46 (TX1 4).1 (TX1 4).2.1 (TX1 4).2.2.1 ∈ wsX1_takeBest := by decide +kernel
section
variable {p : Program} {l : Launch} {e : Env} {s : State} {m : MethodId} {args : Array Value} {below : List Frame} {meth : Method} {c : Code} {H : Heap} {locs : List Loc} {Q : State → Prop} {D : va_G} {cI cZ cJ : ClassId} {A : Nat → Prop} {ls : Array Slot}
def wp_X1_takeBest_0 (J2 : Int32 → zSt → Prop) (Q1 : zSt → Prop) (u1 : zSt) : Prop :=
  ∀ x1_1 : Int32, x1_1 = 0 → J2 x1_1 u1

set_option maxHeartbeats 4000000 in
set_option maxRecDepth 100000 in
theorem bk_X1_takeBest_0 {a : Nat → Nat → Nat} {J2 : Int32 → zSt → Prop} {Q1 : zSt → Prop} {u1 : zSt} (C : zCx p s m args c cX1_takeBest 2 RX1 wsX1_takeBest D cI cZ cJ A) (Y : zDy D A s.heap (k1 a cI cZ u1) H locs) (hl : lv_has ls 2 [(0, .ref (a 1 99))]) (hret : ∀ {pc : Nat} {H : Heap} {locs : List Loc} {ls : Array Slot} {u : zSt}, zDy D A s.heap ((fun u : zSt => k1 a cI cZ u) u) H locs → Q1 u → decode cX1_takeBest pc = .ok (.return_, 1) → W p l e ({ frames := 0, cells := 0, slots := 0, locals := 0 } : Room) s m args below meth c H locs 0 0 Q (F0 m pc ls [])) (hJ2 : ∀ (x1 : Int32) (u1 : zSt) (H : Heap) (locs : List Loc) (ls : Array Slot), J2 x1 u1 → zDy D A s.heap (k1 a cI cZ u1) H locs → lv_has ls 2 [(0, .ref (a 1 99)), (1, .int x1)] → W p l e ({ frames := 0, cells := 0, slots := 0, locals := 0 } : Room) s m args below meth c H locs 0 0 Q (F0 m 2 ls [])) (hv : wp_X1_takeBest_0 J2 Q1  u1) : W p l e ({ frames := 0, cells := 0, slots := 0, locals := 0 } : Room) s m args below meth c H locs 0 0 Q (F0 m 0 ls []) := by
  unfold wp_X1_takeBest_0 at hv
  obtain ⟨hx, hb, hml, hown, hts, hK, hA⟩ := id C
  refine lv_iconst (v := 0) hx hb dX1_takeBest_0 (by decide) ?_
  refine z_topi hv (fun x1_1 ex1_1 hv => ?_)
  refine lv_istore_n (lv' := [(1, .int x1_1), (0, .ref (a 1 99))]) hx hb dX1_takeBest_1 rfl hl (by decide) rfl (fun ls hl => ?_)
  exact hJ2 _ _ _ _ _ hv Y (lv_sub hl [1, 0] rfl)

def wp_X1_takeBest_2 (J2 : Int32 → zSt → Prop) (Q1 : zSt → Prop) (x1 : Int32) (u1 : zSt) : Prop :=
  ((u1.1 4) ≤ x1 → Q1 u1) ∧ (¬ (u1.1 4) ≤ x1 → vp_in x1 6 ∧ (vp_in x1 6 ∧ (vp_in x1 6 ∧ (∀ u1_1 : zSt, u1_1 = zA u1 3 (upd (u1.2 3) x1.toNatClampNeg ((u1.2 3 x1.toNatClampNeg) - (u1.2 5 x1.toNatClampNeg))) → ∀ x1_2 : Int32, x1_2 = x1 + 1 → J2 x1_2 u1_1))))

set_option maxHeartbeats 4000000 in
set_option maxRecDepth 100000 in
theorem bk_X1_takeBest_2 {a : Nat → Nat → Nat} {J2 : Int32 → zSt → Prop} {Q1 : zSt → Prop} {x1 : Int32} {u1 : zSt} (C : zCx p s m args c cX1_takeBest 2 RX1 wsX1_takeBest D cI cZ cJ A) (Y : zDy D A s.heap (k1 a cI cZ u1) H locs) (hl : lv_has ls 2 [(0, .ref (a 1 99)), (1, .int x1)]) (hret : ∀ {pc : Nat} {H : Heap} {locs : List Loc} {ls : Array Slot} {u : zSt}, zDy D A s.heap ((fun u : zSt => k1 a cI cZ u) u) H locs → Q1 u → decode cX1_takeBest pc = .ok (.return_, 1) → W p l e ({ frames := 0, cells := 0, slots := 0, locals := 0 } : Room) s m args below meth c H locs 0 0 Q (F0 m pc ls [])) (hJ2 : ∀ (x1 : Int32) (u1 : zSt) (H : Heap) (locs : List Loc) (ls : Array Slot), J2 x1 u1 → zDy D A s.heap (k1 a cI cZ u1) H locs → lv_has ls 2 [(0, .ref (a 1 99)), (1, .int x1)] → W p l e ({ frames := 0, cells := 0, slots := 0, locals := 0 } : Room) s m args below meth c H locs 0 0 Q (F0 m 2 ls [])) (hv : wp_X1_takeBest_2 J2 Q1 x1 u1) : W p l e ({ frames := 0, cells := 0, slots := 0, locals := 0 } : Room) s m args below meth c H locs 0 0 Q (F0 m 2 ls []) := by
  unfold wp_X1_takeBest_2 at hv
  obtain ⟨hx, hb, hml, hown, hts, hK, hA⟩ := id C
  refine lv_iload_n hx hb dX1_takeBest_2 rfl (lv_at hl 1 rfl) ?_
  refine lv_aload_n hx hb dX1_takeBest_3 rfl (lv_at hl 0 rfl) ?_
  refine z_get C Y (Cn := RX1) (T := TX1) (N := 16) in_X1_takeBest_1 rfl (ge1_1 ..) 4 (by decide) fl_X1_takeBest_46 rfl dX1_takeBest_4 ?_
  refine lv_icmp_ge (tgt := 31) hx hb dX1_takeBest_7 (by decide) (fun hc => ?_) (fun hc => ?_)
  · have hv := hv.1 hc
    exact hret Y hv dX1_takeBest_31
  · have hv := hv.2 hc
    refine lv_aload_n hx hb dX1_takeBest_10 rfl (lv_at hl 0 rfl) ?_
    refine z_get C Y (Cn := RX1) (T := TX1) (N := 16) in_X1_takeBest_1 rfl (ge1_1 ..) 3 (by decide) fl_X1_takeBest_21 rfl dX1_takeBest_11 ?_
    refine lv_iload_n hx hb dX1_takeBest_14 rfl (lv_at hl 1 rfl) ?_
    refine lv_dup2_11 hx hb dX1_takeBest_15 rfl rfl ?_
    obtain ⟨hi, hv⟩ := hv
    refine z_ldI C Y (pa1_1_3 ..) hi dX1_takeBest_16 ?_
    refine lv_aload_n hx hb dX1_takeBest_17 rfl (lv_at hl 0 rfl) ?_
    refine z_get C Y (Cn := RX1) (T := TX1) (N := 16) in_X1_takeBest_1 rfl (ge1_1 ..) 5 (by decide) fl_X1_takeBest_24 rfl dX1_takeBest_18 ?_
    refine lv_iload_n hx hb dX1_takeBest_21 rfl (lv_at hl 1 rfl) ?_
    obtain ⟨hi, hv⟩ := hv
    refine z_ldI C Y (pa1_1_5 ..) hi dX1_takeBest_22 ?_
    refine lv_isub hx hb dX1_takeBest_23 ?_
    obtain ⟨hi, hv⟩ := hv
    refine z_stI C Y (pa1_1_3 ..) (sa1_1_3 ..) hi dX1_takeBest_24 (fun H locs Y => ?_)
    obtain ⟨u1_1, eu1_1, Y, hv⟩ := z_nm (kf := fun z => (k1 a cI cZ z)) Y hv
    obtain ⟨x1_2, ex1_2, hv⟩ := z_nv hv
    refine lv_iinc (v := x1_2) (lv' := [(1, .int x1_2), (0, .ref (a 1 99))]) hx hb dX1_takeBest_25 hl (k := 1) rfl (by rw [ex1_2]; rfl) (by decide) rfl (fun ls hl => ?_)
    refine lv_goto (tgt := 2) hx hb dX1_takeBest_28 (by decide) ?_
    exact hJ2 _ _ _ _ _ hv Y (lv_sub hl [1, 0] rfl)

end
set_option maxHeartbeats 4000000 in
set_option maxRecDepth 100000 in
theorem k_X1_takeBest (l : Launch) {D : va_G} {cI cZ cJ : ClassId} {a : Nat → Nat → Nat} {Q1 : zSt → Prop} {u1 : zSt} (I2 : Nat → Int32 → zSt → Prop)
    (hv : wp_X1_takeBest_0 (fun x1 u1 => ∃ n : Nat, I2 n x1 u1) Q1  u1)
    (hI2 : ∀ (n : Nat) (x1 : Int32) (u1 : zSt), I2 n x1 u1 → wp_X1_takeBest_2 (fun x1 u1 => ∃ k : Nat, k < n ∧ I2 k x1 u1) Q1 x1 u1) : zMV l yX1_takeBest wsX1_takeBest ({ frames := 0, cells := 0, slots := 0, locals := 0 } : Room) D cI cZ cJ [.ref (a 1 99)] (k1 a cI cZ u1) (fun u : zSt => k1 a cI cZ u) Q1 := by
  refine z_ofV (by decide) rfl rfl (Nat.le_of_ble_eq_true rfl) (@fun p e s m args below meth c A Q ls C Y hl hret => ?_)
  have key : ∀ n : Nat, (∀ (x1 : Int32) (u1 : zSt) (H : Heap) (locs : List Loc) (ls : Array Slot), I2 n x1 u1 → zDy D A s.heap (k1 a cI cZ u1) H locs → lv_has ls 2 [(0, .ref (a 1 99)), (1, .int x1)] → W p l e ({ frames := 0, cells := 0, slots := 0, locals := 0 } : Room) s m args below meth c H locs 0 0 Q (F0 m 2 ls [])) := by
    intro n
    induction n using Nat.strongRecOn with
    | _ n ih =>
      exact fun x1 u1 H locs ls hi Y hl => bk_X1_takeBest_2 C Y hl hret (fun y0 y1 H locs ls hi Y hl => by obtain ⟨k, hk, hi⟩ := hi; exact (ih k hk) y0 y1 H locs ls hi Y hl) (hI2 n x1 u1 hi)
  exact bk_X1_takeBest_0 C Y hl hret (fun y0 y1 H locs ls hi Y hl => by obtain ⟨n, hi⟩ := hi; exact (key n) y0 y1 H locs ls hi Y hl) hv
def TX1_takeBest (Q1 : zSt → Prop) (u1 : zSt) : Prop :=
  ∃ I2 : Nat → Int32 → zSt → Prop, (wp_X1_takeBest_0 (fun x1 u1 => ∃ n : Nat, I2 n x1 u1) Q1  u1) ∧ (∀ (n : Nat) (x1 : Int32) (u1 : zSt), I2 n x1 u1 → wp_X1_takeBest_2 (fun x1 u1 => ∃ k : Nat, k < n ∧ I2 k x1 u1) Q1 x1 u1)
set_option maxHeartbeats 4000000 in
set_option maxRecDepth 100000 in
theorem c_X1_takeBest (l : Launch) {D : va_G} {cI cZ cJ : ClassId} {a : Nat → Nat → Nat} {Q1 : zSt → Prop} {u1 : zSt} (hv : TX1_takeBest Q1  u1) : zMV l yX1_takeBest wsX1_takeBest ({ frames := 0, cells := 0, slots := 0, locals := 0 } : Room) D cI cZ cJ [.ref (a 1 99)] (k1 a cI cZ u1) (fun u : zSt => k1 a cI cZ u) Q1 := by
  obtain ⟨I2, hv, hI2⟩ := hv
  exact k_X1_takeBest l I2 hv hI2


theorem in_X1_setBounds_1 : ∀ w ∈ wsX10, w ∈ wsX1_setBounds := by first | exact fun w h => List.mem_cons_of_mem _ (List.mem_append_right _ h) | exact fun w h => List.mem_cons_of_mem _ (List.mem_append_left _ (List.mem_append_right _ h)) | decide +kernel
theorem fl_X1_setBounds_9 : Cond.fieldLink RX1 9 (TX1 0).1 (TX1 0).2.1 (TX1 0).2.2.1 ∈ wsX1_setBounds := by decide +kernel
theorem fl_X1_setBounds_15 : Cond.fieldLink RX1 15 (TX1 1).1 (TX1 1).2.1 (TX1 1).2.2.1 ∈ wsX1_setBounds := by decide +kernel
theorem fl_X1_setBounds_18 : Cond.fieldLink RX1 18 (TX1 2).1 (TX1 2).2.1 (TX1 2).2.2.1 ∈ wsX1_setBounds := by decide +kernel
theorem fl_X1_setBounds_21 : Cond.fieldLink RX1 21 (TX1 3).1 (TX1 3).2.1 (TX1 3).2.2.1 ∈ wsX1_setBounds := by decide +kernel
theorem fl_X1_setBounds_34 : Cond.fieldLink RX1 34 (TX1 12).1 (TX1 12).2.1 (TX1 12).2.2.1 ∈ wsX1_setBounds := by decide +kernel
theorem fl_X1_setBounds_37 : Cond.fieldLink RX1 37 (TX1 13).1 (TX1 13).2.1 (TX1 13).2.2.1 ∈ wsX1_setBounds := by decide +kernel
theorem fl_X1_setBounds_40 : Cond.fieldLink RX1 40 (TX1 14).1 (TX1 14).2.1 (TX1 14).2.2.1 ∈ wsX1_setBounds := by decide +kernel
theorem fl_X1_setBounds_43 : Cond.fieldLink RX1 43 (TX1 15).1 (TX1 15).2.1 (TX1 15).2.2.1 ∈ wsX1_setBounds := by decide +kernel
theorem fl_X1_setBounds_46 : Cond.fieldLink RX1 46 (TX1 4).1 (TX1 4).2.1 (TX1 4).2.2.1 ∈ wsX1_setBounds := by decide +kernel
theorem mm_X1_setBounds_max : z_mw RX1 68 Lib.Math.max.name Lib.Math.max.code wsX1_setBounds := ⟨by decide +kernel, by decide +kernel, by decide +kernel, by decide +kernel⟩
theorem mm_X1_setBounds_min : z_mw RX1 62 Lib.Math.min.name Lib.Math.min.code wsX1_setBounds := ⟨by decide +kernel, by decide +kernel, by decide +kernel, by decide +kernel⟩
section
variable {p : Program} {l : Launch} {e : Env} {s : State} {m : MethodId} {args : Array Value} {below : List Frame} {meth : Method} {c : Code} {H : Heap} {locs : List Loc} {Q : State → Prop} {D : va_G} {cI cZ cJ : ClassId} {A : Nat → Prop} {ls : Array Slot}
def wp_X1_setBounds_0 (J51 : Int32 → zSt → Prop) (Q1 : zSt → Prop) (u1 : zSt) : Prop :=
  vp_in (u1.1 4) 7 ∧ (∀ u1_1 : zSt, u1_1 = zA u1 12 (upd (u1.2 12) (u1.1 4).toNatClampNeg 0) → vp_in (u1_1.1 4) 7 ∧ (∀ u1_2 : zSt, u1_2 = zA u1_1 13 (upd (u1_1.2 13) (u1_1.1 4).toNatClampNeg 1000) → vp_in (u1_2.1 4) 7 ∧ (∀ u1_3 : zSt, u1_3 = zA u1_2 14 (upd (u1_2.2 14) (u1_2.1 4).toNatClampNeg 0) → vp_in (u1_3.1 4) 7 ∧ (∀ u1_4 : zSt, u1_4 = zA u1_3 15 (upd (u1_3.2 15) (u1_3.1 4).toNatClampNeg 1000) → ∀ x1_5 : Int32, x1_5 = ((u1_4.1 4) - 1) → J51 x1_5 u1_4))))

set_option maxHeartbeats 4000000 in
set_option maxRecDepth 100000 in
theorem bk_X1_setBounds_0 {a : Nat → Nat → Nat} {J51 : Int32 → zSt → Prop} {Q1 : zSt → Prop} {u1 : zSt} (C : zCx p s m args c cX1_setBounds 2 RX1 wsX1_setBounds D cI cZ cJ A) (Y : zDy D A s.heap (k1 a cI cZ u1) H locs) (hl : lv_has ls 2 [(0, .ref (a 1 99))]) (hret : ∀ {pc : Nat} {H : Heap} {locs : List Loc} {ls : Array Slot} {u : zSt}, zDy D A s.heap ((fun u : zSt => k1 a cI cZ u) u) H locs → Q1 u → decode cX1_setBounds pc = .ok (.return_, 1) → W p l e ({ frames := 1, cells := 0, slots := 0, locals := 24 } : Room) s m args below meth c H locs 0 0 Q (F0 m pc ls [])) (hJ51 : ∀ (x1 : Int32) (u1 : zSt) (H : Heap) (locs : List Loc) (ls : Array Slot), J51 x1 u1 → zDy D A s.heap (k1 a cI cZ u1) H locs → lv_has ls 2 [(0, .ref (a 1 99)), (1, .int x1)] → W p l e ({ frames := 1, cells := 0, slots := 0, locals := 24 } : Room) s m args below meth c H locs 0 0 Q (F0 m 51 ls [])) (hv : wp_X1_setBounds_0 J51 Q1  u1) : W p l e ({ frames := 1, cells := 0, slots := 0, locals := 24 } : Room) s m args below meth c H locs 0 0 Q (F0 m 0 ls []) := by
  unfold wp_X1_setBounds_0 at hv
  obtain ⟨hx, hb, hml, hown, hts, hK, hA⟩ := id C
  refine lv_aload_n hx hb dX1_setBounds_0 rfl (lv_at hl 0 rfl) ?_
  refine z_get C Y (Cn := RX1) (T := TX1) (N := 16) in_X1_setBounds_1 rfl (ge1_1 ..) 12 (by decide) fl_X1_setBounds_34 rfl dX1_setBounds_1 ?_
  refine lv_aload_n hx hb dX1_setBounds_4 rfl (lv_at hl 0 rfl) ?_
  refine z_get C Y (Cn := RX1) (T := TX1) (N := 16) in_X1_setBounds_1 rfl (ge1_1 ..) 4 (by decide) fl_X1_setBounds_46 rfl dX1_setBounds_5 ?_
  refine lv_iconst (v := 0) hx hb dX1_setBounds_8 (by decide) ?_
  obtain ⟨hi, hv⟩ := hv
  refine z_stI C Y (pa1_1_12 ..) (sa1_1_12 ..) hi dX1_setBounds_9 (fun H locs Y => ?_)
  obtain ⟨u1_1, eu1_1, Y, hv⟩ := z_nm (kf := fun z => (k1 a cI cZ z)) Y hv
  refine lv_aload_n hx hb dX1_setBounds_10 rfl (lv_at hl 0 rfl) ?_
  refine z_get C Y (Cn := RX1) (T := TX1) (N := 16) in_X1_setBounds_1 rfl (ge1_1 ..) 13 (by decide) fl_X1_setBounds_37 rfl dX1_setBounds_11 ?_
  refine lv_aload_n hx hb dX1_setBounds_14 rfl (lv_at hl 0 rfl) ?_
  refine z_get C Y (Cn := RX1) (T := TX1) (N := 16) in_X1_setBounds_1 rfl (ge1_1 ..) 4 (by decide) fl_X1_setBounds_46 rfl dX1_setBounds_15 ?_
  refine lv_sipush (v := 1000) hx hb dX1_setBounds_18 (by decide) ?_
  obtain ⟨hi, hv⟩ := hv
  refine z_stI C Y (pa1_1_13 ..) (sa1_1_13 ..) hi dX1_setBounds_21 (fun H locs Y => ?_)
  obtain ⟨u1_2, eu1_2, Y, hv⟩ := z_nm (kf := fun z => (k1 a cI cZ z)) Y hv
  refine lv_aload_n hx hb dX1_setBounds_22 rfl (lv_at hl 0 rfl) ?_
  refine z_get C Y (Cn := RX1) (T := TX1) (N := 16) in_X1_setBounds_1 rfl (ge1_1 ..) 14 (by decide) fl_X1_setBounds_40 rfl dX1_setBounds_23 ?_
  refine lv_aload_n hx hb dX1_setBounds_26 rfl (lv_at hl 0 rfl) ?_
  refine z_get C Y (Cn := RX1) (T := TX1) (N := 16) in_X1_setBounds_1 rfl (ge1_1 ..) 4 (by decide) fl_X1_setBounds_46 rfl dX1_setBounds_27 ?_
  refine lv_iconst (v := 0) hx hb dX1_setBounds_30 (by decide) ?_
  obtain ⟨hi, hv⟩ := hv
  refine z_stI C Y (pa1_1_14 ..) (sa1_1_14 ..) hi dX1_setBounds_31 (fun H locs Y => ?_)
  obtain ⟨u1_3, eu1_3, Y, hv⟩ := z_nm (kf := fun z => (k1 a cI cZ z)) Y hv
  refine lv_aload_n hx hb dX1_setBounds_32 rfl (lv_at hl 0 rfl) ?_
  refine z_get C Y (Cn := RX1) (T := TX1) (N := 16) in_X1_setBounds_1 rfl (ge1_1 ..) 15 (by decide) fl_X1_setBounds_43 rfl dX1_setBounds_33 ?_
  refine lv_aload_n hx hb dX1_setBounds_36 rfl (lv_at hl 0 rfl) ?_
  refine z_get C Y (Cn := RX1) (T := TX1) (N := 16) in_X1_setBounds_1 rfl (ge1_1 ..) 4 (by decide) fl_X1_setBounds_46 rfl dX1_setBounds_37 ?_
  refine lv_sipush (v := 1000) hx hb dX1_setBounds_40 (by decide) ?_
  obtain ⟨hi, hv⟩ := hv
  refine z_stI C Y (pa1_1_15 ..) (sa1_1_15 ..) hi dX1_setBounds_43 (fun H locs Y => ?_)
  obtain ⟨u1_4, eu1_4, Y, hv⟩ := z_nm (kf := fun z => (k1 a cI cZ z)) Y hv
  refine lv_aload_n hx hb dX1_setBounds_44 rfl (lv_at hl 0 rfl) ?_
  refine z_get C Y (Cn := RX1) (T := TX1) (N := 16) in_X1_setBounds_1 rfl (ge1_1 ..) 4 (by decide) fl_X1_setBounds_46 rfl dX1_setBounds_45 ?_
  refine lv_iconst (v := 1) hx hb dX1_setBounds_48 (by decide) ?_
  refine lv_isub hx hb dX1_setBounds_49 ?_
  refine z_topi hv (fun x1_5 ex1_5 hv => ?_)
  refine lv_istore_n (lv' := [(1, .int x1_5), (0, .ref (a 1 99))]) hx hb dX1_setBounds_50 rfl hl (by decide) rfl (fun ls hl => ?_)
  exact hJ51 _ _ _ _ _ hv Y (lv_sub hl [1, 0] rfl)

def wp_X1_setBounds_51 (J51 : Int32 → zSt → Prop) (Q1 : zSt → Prop) (x1 : Int32) (u1 : zSt) : Prop :=
  (x1 < (0 : Int32) → Q1 u1) ∧ (¬ x1 < (0 : Int32) → vp_in (x1 + 1) 7 ∧ (vp_in x1 6 ∧ (vp_in x1 7 ∧ (∀ u1_1 : zSt, u1_1 = zA u1 12 (upd (u1.2 12) x1.toNatClampNeg ((u1.2 12 (x1 + 1).toNatClampNeg) + (u1.2 3 x1.toNatClampNeg))) → vp_in (x1 + 1) 7 ∧ (vp_in x1 6 ∧ (vp_in x1 7 ∧ (∀ u1_2 : zSt, u1_2 = zA u1_1 13 (upd (u1_1.2 13) x1.toNatClampNeg (if (u1_1.2 2 x1.toNatClampNeg) < (u1_1.2 13 (x1 + 1).toNatClampNeg) then (u1_1.2 2 x1.toNatClampNeg) else (u1_1.2 13 (x1 + 1).toNatClampNeg))) → vp_in (x1 + 1) 7 ∧ (vp_in x1 6 ∧ (vp_in x1 7 ∧ (∀ u1_3 : zSt, u1_3 = zA u1_2 14 (upd (u1_2.2 14) x1.toNatClampNeg (if (u1_2.2 14 (x1 + 1).toNatClampNeg) < (u1_2.2 0 x1.toNatClampNeg) then (u1_2.2 0 x1.toNatClampNeg) else (u1_2.2 14 (x1 + 1).toNatClampNeg))) → vp_in (x1 + 1) 7 ∧ (vp_in x1 6 ∧ (vp_in x1 7 ∧ (∀ u1_4 : zSt, u1_4 = zA u1_3 15 (upd (u1_3.2 15) x1.toNatClampNeg (if (u1_3.2 1 x1.toNatClampNeg) < (u1_3.2 15 (x1 + 1).toNatClampNeg) then (u1_3.2 1 x1.toNatClampNeg) else (u1_3.2 15 (x1 + 1).toNatClampNeg))) → ∀ x1_5 : Int32, x1_5 = x1 + (-1) → J51 x1_5 u1_4)))))))))))))

set_option maxHeartbeats 4000000 in
set_option maxRecDepth 100000 in
theorem bk_X1_setBounds_51 {a : Nat → Nat → Nat} {J51 : Int32 → zSt → Prop} {Q1 : zSt → Prop} {x1 : Int32} {u1 : zSt} (C : zCx p s m args c cX1_setBounds 2 RX1 wsX1_setBounds D cI cZ cJ A) (Y : zDy D A s.heap (k1 a cI cZ u1) H locs) (hl : lv_has ls 2 [(0, .ref (a 1 99)), (1, .int x1)]) (hret : ∀ {pc : Nat} {H : Heap} {locs : List Loc} {ls : Array Slot} {u : zSt}, zDy D A s.heap ((fun u : zSt => k1 a cI cZ u) u) H locs → Q1 u → decode cX1_setBounds pc = .ok (.return_, 1) → W p l e ({ frames := 1, cells := 0, slots := 0, locals := 24 } : Room) s m args below meth c H locs 0 0 Q (F0 m pc ls [])) (hJ51 : ∀ (x1 : Int32) (u1 : zSt) (H : Heap) (locs : List Loc) (ls : Array Slot), J51 x1 u1 → zDy D A s.heap (k1 a cI cZ u1) H locs → lv_has ls 2 [(0, .ref (a 1 99)), (1, .int x1)] → W p l e ({ frames := 1, cells := 0, slots := 0, locals := 24 } : Room) s m args below meth c H locs 0 0 Q (F0 m 51 ls [])) (hv : wp_X1_setBounds_51 J51 Q1 x1 u1) : W p l e ({ frames := 1, cells := 0, slots := 0, locals := 24 } : Room) s m args below meth c H locs 0 0 Q (F0 m 51 ls []) := by
  unfold wp_X1_setBounds_51 at hv
  obtain ⟨hx, hb, hml, hown, hts, hK, hA⟩ := id C
  refine lv_iload_n hx hb dX1_setBounds_51 rfl (lv_at hl 1 rfl) ?_
  refine lv_if_lt (tgt := 151) hx hb dX1_setBounds_52 (by decide) (fun hc => ?_) (fun hc => ?_)
  · have hv := hv.1 hc
    exact hret Y hv dX1_setBounds_151
  · have hv := hv.2 hc
    refine lv_aload_n hx hb dX1_setBounds_55 rfl (lv_at hl 0 rfl) ?_
    refine z_get C Y (Cn := RX1) (T := TX1) (N := 16) in_X1_setBounds_1 rfl (ge1_1 ..) 12 (by decide) fl_X1_setBounds_34 rfl dX1_setBounds_56 ?_
    refine lv_iload_n hx hb dX1_setBounds_59 rfl (lv_at hl 1 rfl) ?_
    refine lv_aload_n hx hb dX1_setBounds_60 rfl (lv_at hl 0 rfl) ?_
    refine z_get C Y (Cn := RX1) (T := TX1) (N := 16) in_X1_setBounds_1 rfl (ge1_1 ..) 12 (by decide) fl_X1_setBounds_34 rfl dX1_setBounds_61 ?_
    refine lv_iload_n hx hb dX1_setBounds_64 rfl (lv_at hl 1 rfl) ?_
    refine lv_iconst (v := 1) hx hb dX1_setBounds_65 (by decide) ?_
    refine lv_iadd hx hb dX1_setBounds_66 ?_
    obtain ⟨hi, hv⟩ := hv
    refine z_ldI C Y (pa1_1_12 ..) hi dX1_setBounds_67 ?_
    refine lv_aload_n hx hb dX1_setBounds_68 rfl (lv_at hl 0 rfl) ?_
    refine z_get C Y (Cn := RX1) (T := TX1) (N := 16) in_X1_setBounds_1 rfl (ge1_1 ..) 3 (by decide) fl_X1_setBounds_21 rfl dX1_setBounds_69 ?_
    refine lv_iload_n hx hb dX1_setBounds_72 rfl (lv_at hl 1 rfl) ?_
    obtain ⟨hi, hv⟩ := hv
    refine z_ldI C Y (pa1_1_3 ..) hi dX1_setBounds_73 ?_
    refine lv_iadd hx hb dX1_setBounds_74 ?_
    obtain ⟨hi, hv⟩ := hv
    refine z_stI C Y (pa1_1_12 ..) (sa1_1_12 ..) hi dX1_setBounds_75 (fun H locs Y => ?_)
    obtain ⟨u1_1, eu1_1, Y, hv⟩ := z_nm (kf := fun z => (k1 a cI cZ z)) Y hv
    refine lv_aload_n hx hb dX1_setBounds_76 rfl (lv_at hl 0 rfl) ?_
    refine z_get C Y (Cn := RX1) (T := TX1) (N := 16) in_X1_setBounds_1 rfl (ge1_1 ..) 13 (by decide) fl_X1_setBounds_37 rfl dX1_setBounds_77 ?_
    refine lv_iload_n hx hb dX1_setBounds_80 rfl (lv_at hl 1 rfl) ?_
    refine lv_aload_n hx hb dX1_setBounds_81 rfl (lv_at hl 0 rfl) ?_
    refine z_get C Y (Cn := RX1) (T := TX1) (N := 16) in_X1_setBounds_1 rfl (ge1_1 ..) 13 (by decide) fl_X1_setBounds_37 rfl dX1_setBounds_82 ?_
    refine lv_iload_n hx hb dX1_setBounds_85 rfl (lv_at hl 1 rfl) ?_
    refine lv_iconst (v := 1) hx hb dX1_setBounds_86 (by decide) ?_
    refine lv_iadd hx hb dX1_setBounds_87 ?_
    obtain ⟨hi, hv⟩ := hv
    refine z_ldI C Y (pa1_1_13 ..) hi dX1_setBounds_88 ?_
    refine lv_aload_n hx hb dX1_setBounds_89 rfl (lv_at hl 0 rfl) ?_
    refine z_get C Y (Cn := RX1) (T := TX1) (N := 16) in_X1_setBounds_1 rfl (ge1_1 ..) 2 (by decide) fl_X1_setBounds_18 rfl dX1_setBounds_90 ?_
    refine lv_iload_n hx hb dX1_setBounds_93 rfl (lv_at hl 1 rfl) ?_
    obtain ⟨hi, hv⟩ := hv
    refine z_ldI C Y (pa1_1_2 ..) hi dX1_setBounds_94 ?_
    refine z_mmin C hl.1 mm_X1_setBounds_min (Nat.le_of_ble_eq_true rfl) (Nat.le_of_ble_eq_true rfl) (Nat.zero_le _) (Nat.zero_le _) dX1_setBounds_95 ?_
    obtain ⟨hi, hv⟩ := hv
    refine z_stI C Y (pa1_1_13 ..) (sa1_1_13 ..) hi dX1_setBounds_98 (fun H locs Y => ?_)
    obtain ⟨u1_2, eu1_2, Y, hv⟩ := z_nm (kf := fun z => (k1 a cI cZ z)) Y hv
    refine lv_aload_n hx hb dX1_setBounds_99 rfl (lv_at hl 0 rfl) ?_
    refine z_get C Y (Cn := RX1) (T := TX1) (N := 16) in_X1_setBounds_1 rfl (ge1_1 ..) 14 (by decide) fl_X1_setBounds_40 rfl dX1_setBounds_100 ?_
    refine lv_iload_n hx hb dX1_setBounds_103 rfl (lv_at hl 1 rfl) ?_
    refine lv_aload_n hx hb dX1_setBounds_104 rfl (lv_at hl 0 rfl) ?_
    refine z_get C Y (Cn := RX1) (T := TX1) (N := 16) in_X1_setBounds_1 rfl (ge1_1 ..) 14 (by decide) fl_X1_setBounds_40 rfl dX1_setBounds_105 ?_
    refine lv_iload_n hx hb dX1_setBounds_108 rfl (lv_at hl 1 rfl) ?_
    refine lv_iconst (v := 1) hx hb dX1_setBounds_109 (by decide) ?_
    refine lv_iadd hx hb dX1_setBounds_110 ?_
    obtain ⟨hi, hv⟩ := hv
    refine z_ldI C Y (pa1_1_14 ..) hi dX1_setBounds_111 ?_
    refine lv_aload_n hx hb dX1_setBounds_112 rfl (lv_at hl 0 rfl) ?_
    refine z_get C Y (Cn := RX1) (T := TX1) (N := 16) in_X1_setBounds_1 rfl (ge1_1 ..) 0 (by decide) fl_X1_setBounds_9 rfl dX1_setBounds_113 ?_
    refine lv_iload_n hx hb dX1_setBounds_116 rfl (lv_at hl 1 rfl) ?_
    obtain ⟨hi, hv⟩ := hv
    refine z_ldI C Y (pa1_1_0 ..) hi dX1_setBounds_117 ?_
    refine z_mmax C hl.1 mm_X1_setBounds_max (Nat.le_of_ble_eq_true rfl) (Nat.le_of_ble_eq_true rfl) (Nat.zero_le _) (Nat.zero_le _) dX1_setBounds_118 ?_
    obtain ⟨hi, hv⟩ := hv
    refine z_stI C Y (pa1_1_14 ..) (sa1_1_14 ..) hi dX1_setBounds_121 (fun H locs Y => ?_)
    obtain ⟨u1_3, eu1_3, Y, hv⟩ := z_nm (kf := fun z => (k1 a cI cZ z)) Y hv
    refine lv_aload_n hx hb dX1_setBounds_122 rfl (lv_at hl 0 rfl) ?_
    refine z_get C Y (Cn := RX1) (T := TX1) (N := 16) in_X1_setBounds_1 rfl (ge1_1 ..) 15 (by decide) fl_X1_setBounds_43 rfl dX1_setBounds_123 ?_
    refine lv_iload_n hx hb dX1_setBounds_126 rfl (lv_at hl 1 rfl) ?_
    refine lv_aload_n hx hb dX1_setBounds_127 rfl (lv_at hl 0 rfl) ?_
    refine z_get C Y (Cn := RX1) (T := TX1) (N := 16) in_X1_setBounds_1 rfl (ge1_1 ..) 15 (by decide) fl_X1_setBounds_43 rfl dX1_setBounds_128 ?_
    refine lv_iload_n hx hb dX1_setBounds_131 rfl (lv_at hl 1 rfl) ?_
    refine lv_iconst (v := 1) hx hb dX1_setBounds_132 (by decide) ?_
    refine lv_iadd hx hb dX1_setBounds_133 ?_
    obtain ⟨hi, hv⟩ := hv
    refine z_ldI C Y (pa1_1_15 ..) hi dX1_setBounds_134 ?_
    refine lv_aload_n hx hb dX1_setBounds_135 rfl (lv_at hl 0 rfl) ?_
    refine z_get C Y (Cn := RX1) (T := TX1) (N := 16) in_X1_setBounds_1 rfl (ge1_1 ..) 1 (by decide) fl_X1_setBounds_15 rfl dX1_setBounds_136 ?_
    refine lv_iload_n hx hb dX1_setBounds_139 rfl (lv_at hl 1 rfl) ?_
    obtain ⟨hi, hv⟩ := hv
    refine z_ldI C Y (pa1_1_1 ..) hi dX1_setBounds_140 ?_
    refine z_mmin C hl.1 mm_X1_setBounds_min (Nat.le_of_ble_eq_true rfl) (Nat.le_of_ble_eq_true rfl) (Nat.zero_le _) (Nat.zero_le _) dX1_setBounds_141 ?_
    obtain ⟨hi, hv⟩ := hv
    refine z_stI C Y (pa1_1_15 ..) (sa1_1_15 ..) hi dX1_setBounds_144 (fun H locs Y => ?_)
    obtain ⟨u1_4, eu1_4, Y, hv⟩ := z_nm (kf := fun z => (k1 a cI cZ z)) Y hv
    obtain ⟨x1_5, ex1_5, hv⟩ := z_nv hv
    refine lv_iinc (v := x1_5) (lv' := [(1, .int x1_5), (0, .ref (a 1 99))]) hx hb dX1_setBounds_145 hl (k := 1) rfl (by rw [ex1_5]; rfl) (by decide) rfl (fun ls hl => ?_)
    refine lv_goto (tgt := 51) hx hb dX1_setBounds_148 (by decide) ?_
    exact hJ51 _ _ _ _ _ hv Y (lv_sub hl [1, 0] rfl)

end
set_option maxHeartbeats 4000000 in
set_option maxRecDepth 100000 in
theorem k_X1_setBounds (l : Launch) {D : va_G} {cI cZ cJ : ClassId} {a : Nat → Nat → Nat} {Q1 : zSt → Prop} {u1 : zSt} (I51 : Nat → Int32 → zSt → Prop)
    (hv : wp_X1_setBounds_0 (fun x1 u1 => ∃ n : Nat, I51 n x1 u1) Q1  u1)
    (hI51 : ∀ (n : Nat) (x1 : Int32) (u1 : zSt), I51 n x1 u1 → wp_X1_setBounds_51 (fun x1 u1 => ∃ k : Nat, k < n ∧ I51 k x1 u1) Q1 x1 u1) : zMV l yX1_setBounds wsX1_setBounds ({ frames := 1, cells := 0, slots := 0, locals := 24 } : Room) D cI cZ cJ [.ref (a 1 99)] (k1 a cI cZ u1) (fun u : zSt => k1 a cI cZ u) Q1 := by
  refine z_ofV (by decide) rfl rfl (Nat.le_of_ble_eq_true rfl) (@fun p e s m args below meth c A Q ls C Y hl hret => ?_)
  have key : ∀ n : Nat, (∀ (x1 : Int32) (u1 : zSt) (H : Heap) (locs : List Loc) (ls : Array Slot), I51 n x1 u1 → zDy D A s.heap (k1 a cI cZ u1) H locs → lv_has ls 2 [(0, .ref (a 1 99)), (1, .int x1)] → W p l e ({ frames := 1, cells := 0, slots := 0, locals := 24 } : Room) s m args below meth c H locs 0 0 Q (F0 m 51 ls [])) := by
    intro n
    induction n using Nat.strongRecOn with
    | _ n ih =>
      exact fun x1 u1 H locs ls hi Y hl => bk_X1_setBounds_51 C Y hl hret (fun y0 y1 H locs ls hi Y hl => by obtain ⟨k, hk, hi⟩ := hi; exact (ih k hk) y0 y1 H locs ls hi Y hl) (hI51 n x1 u1 hi)
  exact bk_X1_setBounds_0 C Y hl hret (fun y0 y1 H locs ls hi Y hl => by obtain ⟨n, hi⟩ := hi; exact (key n) y0 y1 H locs ls hi Y hl) hv
def TX1_setBounds (Q1 : zSt → Prop) (u1 : zSt) : Prop :=
  ∃ I51 : Nat → Int32 → zSt → Prop, (wp_X1_setBounds_0 (fun x1 u1 => ∃ n : Nat, I51 n x1 u1) Q1  u1) ∧ (∀ (n : Nat) (x1 : Int32) (u1 : zSt), I51 n x1 u1 → wp_X1_setBounds_51 (fun x1 u1 => ∃ k : Nat, k < n ∧ I51 k x1 u1) Q1 x1 u1)
set_option maxHeartbeats 4000000 in
set_option maxRecDepth 100000 in
theorem c_X1_setBounds (l : Launch) {D : va_G} {cI cZ cJ : ClassId} {a : Nat → Nat → Nat} {Q1 : zSt → Prop} {u1 : zSt} (hv : TX1_setBounds Q1  u1) : zMV l yX1_setBounds wsX1_setBounds ({ frames := 1, cells := 0, slots := 0, locals := 24 } : Room) D cI cZ cJ [.ref (a 1 99)] (k1 a cI cZ u1) (fun u : zSt => k1 a cI cZ u) Q1 := by
  obtain ⟨I51, hv, hI51⟩ := hv
  exact k_X1_setBounds l I51 hv hI51


theorem in_X1_keep_1 : ∀ w ∈ wsX10, w ∈ wsX1_keep := by first | exact fun w h => List.mem_cons_of_mem _ (List.mem_append_right _ h) | exact fun w h => List.mem_cons_of_mem _ (List.mem_append_left _ (List.mem_append_right _ h)) | decide +kernel
theorem fl_X1_keep_24 : Cond.fieldLink RX1 24 (TX1 5).1 (TX1 5).2.1 (TX1 5).2.2.1 ∈ wsX1_keep := by decide +kernel
theorem fl_X1_keep_27 : Cond.fieldLink RX1 27 (TX1 6).1 (TX1 6).2.1 (TX1 6).2.2.1 ∈ wsX1_keep := by decide +kernel
theorem fl_X1_keep_31 : Cond.fieldLink RX1 31 (TX1 9).1 (TX1 9).2.1 (TX1 9).2.2.1 ∈ wsX1_keep := by decide +kernel
theorem fl_X1_keep_46 : Cond.fieldLink RX1 46 (TX1 4).1 (TX1 4).2.1 (TX1 4).2.2.1 ∈ wsX1_keep := by decide +kernel
theorem fl_X1_keep_82 : Cond.fieldLink RX1 82 (TX1 7).1 (TX1 7).2.1 (TX1 7).2.2.1 ∈ wsX1_keep := by decide +kernel
theorem fl_X1_keep_85 : Cond.fieldLink RX1 85 (TX1 8).1 (TX1 8).2.1 (TX1 8).2.2.1 ∈ wsX1_keep := by decide +kernel
section
variable {p : Program} {l : Launch} {e : Env} {s : State} {m : MethodId} {args : Array Value} {below : List Frame} {meth : Method} {c : Code} {H : Heap} {locs : List Loc} {Q : State → Prop} {D : va_G} {cI cZ cJ : ClassId} {A : Nat → Prop} {ls : Array Slot}
def wp_X1_keep_0 (J29 : Int32 → zSt → Prop) (Q1 : zSt → Prop) (p1 : Int32) (p2 : Int32) (p3 : Int32) (u1 : zSt) : Prop :=
  ∀ u1_1 : zSt, u1_1 = zI u1 6 p1 → ∀ u1_2 : zSt, u1_2 = zI u1_1 7 (p2 / 10) → ∀ u1_3 : zSt, u1_3 = zI u1_2 8 (((p3 + 10) - 1) / 10) → ∀ x4_4 : Int32, x4_4 = 0 → J29 x4_4 u1_3

set_option maxHeartbeats 4000000 in
set_option maxRecDepth 100000 in
theorem bk_X1_keep_0 {a : Nat → Nat → Nat} {J29 : Int32 → zSt → Prop} {Q1 : zSt → Prop} {p1 : Int32} {p2 : Int32} {p3 : Int32} {u1 : zSt} (C : zCx p s m args c cX1_keep 5 RX1 wsX1_keep D cI cZ cJ A) (Y : zDy D A s.heap (k1 a cI cZ u1) H locs) (hl : lv_has ls 5 [(0, .ref (a 1 99)), (1, .int p1), (2, .int p2), (3, .int p3)]) (hret : ∀ {pc : Nat} {H : Heap} {locs : List Loc} {ls : Array Slot} {u : zSt}, zDy D A s.heap ((fun u : zSt => k1 a cI cZ u) u) H locs → Q1 u → decode cX1_keep pc = .ok (.return_, 1) → W p l e ({ frames := 0, cells := 0, slots := 0, locals := 0 } : Room) s m args below meth c H locs 0 0 Q (F0 m pc ls [])) (hJ29 : ∀ (x4 : Int32) (u1 : zSt) (H : Heap) (locs : List Loc) (ls : Array Slot), J29 x4 u1 → zDy D A s.heap (k1 a cI cZ u1) H locs → lv_has ls 5 [(0, .ref (a 1 99)), (4, .int x4)] → W p l e ({ frames := 0, cells := 0, slots := 0, locals := 0 } : Room) s m args below meth c H locs 0 0 Q (F0 m 29 ls [])) (hv : wp_X1_keep_0 J29 Q1 p1 p2 p3 u1) : W p l e ({ frames := 0, cells := 0, slots := 0, locals := 0 } : Room) s m args below meth c H locs 0 0 Q (F0 m 0 ls []) := by
  unfold wp_X1_keep_0 at hv
  obtain ⟨hx, hb, hml, hown, hts, hK, hA⟩ := id C
  refine lv_aload_n hx hb dX1_keep_0 rfl (lv_at hl 0 rfl) ?_
  refine lv_iload_n hx hb dX1_keep_1 rfl (lv_at hl 1 rfl) ?_
  refine z_putI C Y (Cn := RX1) (T := TX1) (N := 16) in_X1_keep_1 rfl tyX1 tyX1_ok nmX1 (ge1_1 ..) 6 (by decide) fl_X1_keep_27 rfl (by decide +kernel) (Nat.le_of_ble_eq_true rfl) (si1_1_6 ..) dX1_keep_2 (fun H locs Y => ?_)
  obtain ⟨u1_1, eu1_1, Y, hv⟩ := z_nm (kf := fun z => (k1 a cI cZ z)) Y hv
  refine lv_aload_n hx hb dX1_keep_5 rfl (lv_at hl 0 rfl) ?_
  refine lv_iload_n hx hb dX1_keep_6 rfl (lv_at hl 2 rfl) ?_
  refine lv_bipush (v := 10) hx hb dX1_keep_7 (by decide) ?_
  refine lv_idiv hx hb dX1_keep_9 (by decide) ?_
  refine z_putI C Y (Cn := RX1) (T := TX1) (N := 16) in_X1_keep_1 rfl tyX1 tyX1_ok nmX1 (ge1_1 ..) 7 (by decide) fl_X1_keep_82 rfl (by decide +kernel) (Nat.le_of_ble_eq_true rfl) (si1_1_7 ..) dX1_keep_10 (fun H locs Y => ?_)
  obtain ⟨u1_2, eu1_2, Y, hv⟩ := z_nm (kf := fun z => (k1 a cI cZ z)) Y hv
  refine lv_aload_n hx hb dX1_keep_13 rfl (lv_at hl 0 rfl) ?_
  refine lv_iload_n hx hb dX1_keep_14 rfl (lv_at hl 3 rfl) ?_
  refine lv_bipush (v := 10) hx hb dX1_keep_15 (by decide) ?_
  refine lv_iadd hx hb dX1_keep_17 ?_
  refine lv_iconst (v := 1) hx hb dX1_keep_18 (by decide) ?_
  refine lv_isub hx hb dX1_keep_19 ?_
  refine lv_bipush (v := 10) hx hb dX1_keep_20 (by decide) ?_
  refine lv_idiv hx hb dX1_keep_22 (by decide) ?_
  refine z_putI C Y (Cn := RX1) (T := TX1) (N := 16) in_X1_keep_1 rfl tyX1 tyX1_ok nmX1 (ge1_1 ..) 8 (by decide) fl_X1_keep_85 rfl (by decide +kernel) (Nat.le_of_ble_eq_true rfl) (si1_1_8 ..) dX1_keep_23 (fun H locs Y => ?_)
  obtain ⟨u1_3, eu1_3, Y, hv⟩ := z_nm (kf := fun z => (k1 a cI cZ z)) Y hv
  refine lv_iconst (v := 0) hx hb dX1_keep_26 (by decide) ?_
  refine z_topi hv (fun x4_4 ex4_4 hv => ?_)
  refine lv_istore (lv' := [(4, .int x4_4), (0, .ref (a 1 99)), (1, .int p1), (2, .int p2), (3, .int p3)]) hx hb dX1_keep_27 hl (by decide) rfl (fun ls hl => ?_)
  exact hJ29 _ _ _ _ _ hv Y (lv_sub hl [1, 0] rfl)

def wp_X1_keep_29 (J29 : Int32 → zSt → Prop) (Q1 : zSt → Prop) (x4 : Int32) (u1 : zSt) : Prop :=
  ((u1.1 4) ≤ x4 → Q1 u1) ∧ (¬ (u1.1 4) ≤ x4 → vp_in x4 6 ∧ (vp_in x4 6 ∧ (∀ u1_1 : zSt, u1_1 = zA u1 5 (upd (u1.2 5) x4.toNatClampNeg (u1.2 9 x4.toNatClampNeg)) → ∀ x4_2 : Int32, x4_2 = x4 + 1 → J29 x4_2 u1_1)))

set_option maxHeartbeats 4000000 in
set_option maxRecDepth 100000 in
theorem bk_X1_keep_29 {a : Nat → Nat → Nat} {J29 : Int32 → zSt → Prop} {Q1 : zSt → Prop} {x4 : Int32} {u1 : zSt} (C : zCx p s m args c cX1_keep 5 RX1 wsX1_keep D cI cZ cJ A) (Y : zDy D A s.heap (k1 a cI cZ u1) H locs) (hl : lv_has ls 5 [(0, .ref (a 1 99)), (4, .int x4)]) (hret : ∀ {pc : Nat} {H : Heap} {locs : List Loc} {ls : Array Slot} {u : zSt}, zDy D A s.heap ((fun u : zSt => k1 a cI cZ u) u) H locs → Q1 u → decode cX1_keep pc = .ok (.return_, 1) → W p l e ({ frames := 0, cells := 0, slots := 0, locals := 0 } : Room) s m args below meth c H locs 0 0 Q (F0 m pc ls [])) (hJ29 : ∀ (x4 : Int32) (u1 : zSt) (H : Heap) (locs : List Loc) (ls : Array Slot), J29 x4 u1 → zDy D A s.heap (k1 a cI cZ u1) H locs → lv_has ls 5 [(0, .ref (a 1 99)), (4, .int x4)] → W p l e ({ frames := 0, cells := 0, slots := 0, locals := 0 } : Room) s m args below meth c H locs 0 0 Q (F0 m 29 ls [])) (hv : wp_X1_keep_29 J29 Q1 x4 u1) : W p l e ({ frames := 0, cells := 0, slots := 0, locals := 0 } : Room) s m args below meth c H locs 0 0 Q (F0 m 29 ls []) := by
  unfold wp_X1_keep_29 at hv
  obtain ⟨hx, hb, hml, hown, hts, hK, hA⟩ := id C
  refine lv_iload hx hb dX1_keep_29 (lv_at hl 1 rfl) ?_
  refine lv_aload_n hx hb dX1_keep_31 rfl (lv_at hl 0 rfl) ?_
  refine z_get C Y (Cn := RX1) (T := TX1) (N := 16) in_X1_keep_1 rfl (ge1_1 ..) 4 (by decide) fl_X1_keep_46 rfl dX1_keep_32 ?_
  refine lv_icmp_ge (tgt := 58) hx hb dX1_keep_35 (by decide) (fun hc => ?_) (fun hc => ?_)
  · have hv := hv.1 hc
    exact hret Y hv dX1_keep_58
  · have hv := hv.2 hc
    refine lv_aload_n hx hb dX1_keep_38 rfl (lv_at hl 0 rfl) ?_
    refine z_get C Y (Cn := RX1) (T := TX1) (N := 16) in_X1_keep_1 rfl (ge1_1 ..) 5 (by decide) fl_X1_keep_24 rfl dX1_keep_39 ?_
    refine lv_iload hx hb dX1_keep_42 (lv_at hl 1 rfl) ?_
    refine lv_aload_n hx hb dX1_keep_44 rfl (lv_at hl 0 rfl) ?_
    refine z_get C Y (Cn := RX1) (T := TX1) (N := 16) in_X1_keep_1 rfl (ge1_1 ..) 9 (by decide) fl_X1_keep_31 rfl dX1_keep_45 ?_
    refine lv_iload hx hb dX1_keep_48 (lv_at hl 1 rfl) ?_
    obtain ⟨hi, hv⟩ := hv
    refine z_ldI C Y (pa1_1_9 ..) hi dX1_keep_50 ?_
    obtain ⟨hi, hv⟩ := hv
    refine z_stI C Y (pa1_1_5 ..) (sa1_1_5 ..) hi dX1_keep_51 (fun H locs Y => ?_)
    obtain ⟨u1_1, eu1_1, Y, hv⟩ := z_nm (kf := fun z => (k1 a cI cZ z)) Y hv
    obtain ⟨x4_2, ex4_2, hv⟩ := z_nv hv
    refine lv_iinc (v := x4_2) (lv' := [(4, .int x4_2), (0, .ref (a 1 99))]) hx hb dX1_keep_52 hl (k := 1) rfl (by rw [ex4_2]; rfl) (by decide) rfl (fun ls hl => ?_)
    refine lv_goto (tgt := 29) hx hb dX1_keep_55 (by decide) ?_
    exact hJ29 _ _ _ _ _ hv Y (lv_sub hl [1, 0] rfl)

end
set_option maxHeartbeats 4000000 in
set_option maxRecDepth 100000 in
theorem k_X1_keep (l : Launch) {D : va_G} {cI cZ cJ : ClassId} {a : Nat → Nat → Nat} {Q1 : zSt → Prop} {p1 : Int32} {p2 : Int32} {p3 : Int32} {u1 : zSt} (I29 : Nat → Int32 → zSt → Prop)
    (hv : wp_X1_keep_0 (fun x4 u1 => ∃ n : Nat, I29 n x4 u1) Q1 p1 p2 p3 u1)
    (hI29 : ∀ (n : Nat) (x4 : Int32) (u1 : zSt), I29 n x4 u1 → wp_X1_keep_29 (fun x4 u1 => ∃ k : Nat, k < n ∧ I29 k x4 u1) Q1 x4 u1) : zMV l yX1_keep wsX1_keep ({ frames := 0, cells := 0, slots := 0, locals := 0 } : Room) D cI cZ cJ [.ref (a 1 99), .int p1, .int p2, .int p3] (k1 a cI cZ u1) (fun u : zSt => k1 a cI cZ u) Q1 := by
  refine z_ofV (by decide) rfl rfl (Nat.le_of_ble_eq_true rfl) (@fun p e s m args below meth c A Q ls C Y hl hret => ?_)
  have key : ∀ n : Nat, (∀ (x4 : Int32) (u1 : zSt) (H : Heap) (locs : List Loc) (ls : Array Slot), I29 n x4 u1 → zDy D A s.heap (k1 a cI cZ u1) H locs → lv_has ls 5 [(0, .ref (a 1 99)), (4, .int x4)] → W p l e ({ frames := 0, cells := 0, slots := 0, locals := 0 } : Room) s m args below meth c H locs 0 0 Q (F0 m 29 ls [])) := by
    intro n
    induction n using Nat.strongRecOn with
    | _ n ih =>
      exact fun x4 u1 H locs ls hi Y hl => bk_X1_keep_29 C Y hl hret (fun y0 y1 H locs ls hi Y hl => by obtain ⟨k, hk, hi⟩ := hi; exact (ih k hk) y0 y1 H locs ls hi Y hl) (hI29 n x4 u1 hi)
  exact bk_X1_keep_0 C Y hl hret (fun y0 y1 H locs ls hi Y hl => by obtain ⟨n, hi⟩ := hi; exact (key n) y0 y1 H locs ls hi Y hl) hv
def TX1_keep (Q1 : zSt → Prop) (p1 : Int32) (p2 : Int32) (p3 : Int32) (u1 : zSt) : Prop :=
  ∃ I29 : Nat → Int32 → zSt → Prop, (wp_X1_keep_0 (fun x4 u1 => ∃ n : Nat, I29 n x4 u1) Q1 p1 p2 p3 u1) ∧ (∀ (n : Nat) (x4 : Int32) (u1 : zSt), I29 n x4 u1 → wp_X1_keep_29 (fun x4 u1 => ∃ k : Nat, k < n ∧ I29 k x4 u1) Q1 x4 u1)
set_option maxHeartbeats 4000000 in
set_option maxRecDepth 100000 in
theorem c_X1_keep (l : Launch) {D : va_G} {cI cZ cJ : ClassId} {a : Nat → Nat → Nat} {Q1 : zSt → Prop} {p1 : Int32} {p2 : Int32} {p3 : Int32} {u1 : zSt} (hv : TX1_keep Q1 p1 p2 p3 u1) : zMV l yX1_keep wsX1_keep ({ frames := 0, cells := 0, slots := 0, locals := 0 } : Room) D cI cZ cJ [.ref (a 1 99), .int p1, .int p2, .int p3] (k1 a cI cZ u1) (fun u : zSt => k1 a cI cZ u) Q1 := by
  obtain ⟨I29, hv, hI29⟩ := hv
  exact k_X1_keep l I29 hv hI29


theorem in_X1_mayBeBetter_1 : ∀ w ∈ wsX10, w ∈ wsX1_mayBeBetter := by first | exact fun w h => List.mem_cons_of_mem _ (List.mem_append_right _ h) | exact fun w h => List.mem_cons_of_mem _ (List.mem_append_left _ (List.mem_append_right _ h)) | decide +kernel
theorem fl_X1_mayBeBetter_27 : Cond.fieldLink RX1 27 (TX1 6).1 (TX1 6).2.1 (TX1 6).2.2.1 ∈ wsX1_mayBeBetter := by decide +kernel
theorem fl_X1_mayBeBetter_34 : Cond.fieldLink RX1 34 (TX1 12).1 (TX1 12).2.1 (TX1 12).2.2.1 ∈ wsX1_mayBeBetter := by decide +kernel
theorem fl_X1_mayBeBetter_37 : Cond.fieldLink RX1 37 (TX1 13).1 (TX1 13).2.1 (TX1 13).2.2.1 ∈ wsX1_mayBeBetter := by decide +kernel
theorem fl_X1_mayBeBetter_40 : Cond.fieldLink RX1 40 (TX1 14).1 (TX1 14).2.1 (TX1 14).2.2.1 ∈ wsX1_mayBeBetter := by decide +kernel
theorem fl_X1_mayBeBetter_43 : Cond.fieldLink RX1 43 (TX1 15).1 (TX1 15).2.1 (TX1 15).2.2.1 ∈ wsX1_mayBeBetter := by decide +kernel
theorem fl_X1_mayBeBetter_49 : Cond.fieldLink RX1 49 (TX1 10).1 (TX1 10).2.1 (TX1 10).2.2.1 ∈ wsX1_mayBeBetter := by decide +kernel
theorem fl_X1_mayBeBetter_52 : Cond.fieldLink RX1 52 (TX1 11).1 (TX1 11).2.1 (TX1 11).2.2.1 ∈ wsX1_mayBeBetter := by decide +kernel
section
variable {p : Program} {l : Launch} {e : Env} {s : State} {m : MethodId} {args : Array Value} {below : List Frame} {meth : Method} {c : Code} {H : Heap} {locs : List Loc} {Q : State → Prop} {D : va_G} {cI cZ cJ : ClassId} {A : Nat → Prop} {ls : Array Slot}
def wp_X1_mayBeBetter_35 (Q1 : Int32 → zSt → Prop) (x1 : Int32) (x2 : Int32) (x4 : Int32) (x5 : Int32) (u1 : zSt) : Prop :=
  vp_in x1 7 ∧ (((x4 + (x2 * (u1.2 14 x1.toNatClampNeg))) < (u1.1 10) → Q1 0 u1) ∧ (¬ (x4 + (x2 * (u1.2 14 x1.toNatClampNeg))) < (u1.1 10) → vp_in x1 7 ∧ (((u1.1 11) < (x5 + (x2 * (u1.2 15 x1.toNatClampNeg))) → Q1 0 u1) ∧ (¬ (u1.1 11) < (x5 + (x2 * (u1.2 15 x1.toNatClampNeg))) → Q1 1 u1))))

set_option maxHeartbeats 4000000 in
set_option maxRecDepth 100000 in
theorem bk_X1_mayBeBetter_35 {a : Nat → Nat → Nat} {Q1 : Int32 → zSt → Prop} {x1 : Int32} {x2 : Int32} {x4 : Int32} {x5 : Int32} {u1 : zSt} (C : zCx p s m args c cX1_mayBeBetter 6 RX1 wsX1_mayBeBetter D cI cZ cJ A) (Y : zDy D A s.heap (k1 a cI cZ u1) H locs) (hl : lv_has ls 6 [(0, .ref (a 1 99)), (1, .int x1), (2, .int x2), (4, .int x4), (5, .int x5)]) (hret : ∀ {pc : Nat} {H : Heap} {locs : List Loc} {ls : Array Slot} {r : Int32} {u : zSt}, zDy D A s.heap ((fun u : zSt => k1 a cI cZ u) u) H locs → (r = 0 ∨ r = 1) → Q1 r u → decode cX1_mayBeBetter pc = .ok (.ireturn, 1) → W p l e ({ frames := 0, cells := 0, slots := 0, locals := 0 } : Room) s m args below meth c H locs 0 0 Q (F0 m pc ls [.int r])) (hv : wp_X1_mayBeBetter_35 Q1 x1 x2 x4 x5 u1) : W p l e ({ frames := 0, cells := 0, slots := 0, locals := 0 } : Room) s m args below meth c H locs 0 0 Q (F0 m 35 ls []) := by
  unfold wp_X1_mayBeBetter_35 at hv
  obtain ⟨hx, hb, hml, hown, hts, hK, hA⟩ := id C
  refine lv_iload hx hb dX1_mayBeBetter_35 (lv_at hl 3 rfl) ?_
  refine lv_iload_n hx hb dX1_mayBeBetter_37 rfl (lv_at hl 2 rfl) ?_
  refine lv_aload_n hx hb dX1_mayBeBetter_38 rfl (lv_at hl 0 rfl) ?_
  refine z_get C Y (Cn := RX1) (T := TX1) (N := 16) in_X1_mayBeBetter_1 rfl (ge1_1 ..) 14 (by decide) fl_X1_mayBeBetter_40 rfl dX1_mayBeBetter_39 ?_
  refine lv_iload_n hx hb dX1_mayBeBetter_42 rfl (lv_at hl 1 rfl) ?_
  obtain ⟨hi, hv⟩ := hv
  refine z_ldI C Y (pa1_1_14 ..) hi dX1_mayBeBetter_43 ?_
  refine lv_imul hx hb dX1_mayBeBetter_44 ?_
  refine lv_iadd hx hb dX1_mayBeBetter_45 ?_
  refine lv_aload_n hx hb dX1_mayBeBetter_46 rfl (lv_at hl 0 rfl) ?_
  refine z_get C Y (Cn := RX1) (T := TX1) (N := 16) in_X1_mayBeBetter_1 rfl (ge1_1 ..) 10 (by decide) fl_X1_mayBeBetter_49 rfl dX1_mayBeBetter_47 ?_
  refine lv_icmp_lt (tgt := 75) hx hb dX1_mayBeBetter_50 (by decide) (fun hc => ?_) (fun hc => ?_)
  · have hv := hv.1 hc
    refine lv_iconst (v := 0) hx hb dX1_mayBeBetter_75 (by decide) ?_
    exact hret Y (Or.inl rfl) hv dX1_mayBeBetter_76
  · have hv := hv.2 hc
    refine lv_iload hx hb dX1_mayBeBetter_53 (lv_at hl 4 rfl) ?_
    refine lv_iload_n hx hb dX1_mayBeBetter_55 rfl (lv_at hl 2 rfl) ?_
    refine lv_aload_n hx hb dX1_mayBeBetter_56 rfl (lv_at hl 0 rfl) ?_
    refine z_get C Y (Cn := RX1) (T := TX1) (N := 16) in_X1_mayBeBetter_1 rfl (ge1_1 ..) 15 (by decide) fl_X1_mayBeBetter_43 rfl dX1_mayBeBetter_57 ?_
    refine lv_iload_n hx hb dX1_mayBeBetter_60 rfl (lv_at hl 1 rfl) ?_
    obtain ⟨hi, hv⟩ := hv
    refine z_ldI C Y (pa1_1_15 ..) hi dX1_mayBeBetter_61 ?_
    refine lv_imul hx hb dX1_mayBeBetter_62 ?_
    refine lv_iadd hx hb dX1_mayBeBetter_63 ?_
    refine lv_aload_n hx hb dX1_mayBeBetter_64 rfl (lv_at hl 0 rfl) ?_
    refine z_get C Y (Cn := RX1) (T := TX1) (N := 16) in_X1_mayBeBetter_1 rfl (ge1_1 ..) 11 (by decide) fl_X1_mayBeBetter_52 rfl dX1_mayBeBetter_65 ?_
    refine lv_icmp_gt (tgt := 75) hx hb dX1_mayBeBetter_68 (by decide) (fun hc => ?_) (fun hc => ?_)
    · have hv := hv.1 hc
      refine lv_iconst (v := 0) hx hb dX1_mayBeBetter_75 (by decide) ?_
      exact hret Y (Or.inl rfl) hv dX1_mayBeBetter_76
    · have hv := hv.2 hc
      refine lv_iconst (v := 1) hx hb dX1_mayBeBetter_71 (by decide) ?_
      refine lv_goto (tgt := 76) hx hb dX1_mayBeBetter_72 (by decide) ?_
      exact hret Y (Or.inr rfl) hv dX1_mayBeBetter_76

def wp_X1_mayBeBetter_0 (Q1 : Int32 → zSt → Prop) (p1 : Int32) (p2 : Int32) (p3 : Int32) (p4 : Int32) (p5 : Int32) (u1 : zSt) : Prop :=
  vp_in p1 7 ∧ (((u1.2 12 p1.toNatClampNeg) < p2 → Q1 0 u1) ∧ (¬ (u1.2 12 p1.toNatClampNeg) < p2 → ((u1.1 6) = (-1 : Int32) → wp_X1_mayBeBetter_35 Q1 p1 p2 p4 p5 u1) ∧ (¬ (u1.1 6) = (-1 : Int32) → vp_in p1 7 ∧ (((u1.1 6) ≤ (p3 + (p2 * (u1.2 13 p1.toNatClampNeg))) → Q1 0 u1) ∧ (¬ (u1.1 6) ≤ (p3 + (p2 * (u1.2 13 p1.toNatClampNeg))) → wp_X1_mayBeBetter_35 Q1 p1 p2 p4 p5 u1)))))

set_option maxHeartbeats 4000000 in
set_option maxRecDepth 100000 in
theorem bk_X1_mayBeBetter_0 {a : Nat → Nat → Nat} {Q1 : Int32 → zSt → Prop} {p1 : Int32} {p2 : Int32} {p3 : Int32} {p4 : Int32} {p5 : Int32} {u1 : zSt} (C : zCx p s m args c cX1_mayBeBetter 6 RX1 wsX1_mayBeBetter D cI cZ cJ A) (Y : zDy D A s.heap (k1 a cI cZ u1) H locs) (hl : lv_has ls 6 [(0, .ref (a 1 99)), (1, .int p1), (2, .int p2), (3, .int p3), (4, .int p4), (5, .int p5)]) (hret : ∀ {pc : Nat} {H : Heap} {locs : List Loc} {ls : Array Slot} {r : Int32} {u : zSt}, zDy D A s.heap ((fun u : zSt => k1 a cI cZ u) u) H locs → (r = 0 ∨ r = 1) → Q1 r u → decode cX1_mayBeBetter pc = .ok (.ireturn, 1) → W p l e ({ frames := 0, cells := 0, slots := 0, locals := 0 } : Room) s m args below meth c H locs 0 0 Q (F0 m pc ls [.int r])) (hv : wp_X1_mayBeBetter_0 Q1 p1 p2 p3 p4 p5 u1) : W p l e ({ frames := 0, cells := 0, slots := 0, locals := 0 } : Room) s m args below meth c H locs 0 0 Q (F0 m 0 ls []) := by
  unfold wp_X1_mayBeBetter_0 at hv
  obtain ⟨hx, hb, hml, hown, hts, hK, hA⟩ := id C
  refine lv_iload_n hx hb dX1_mayBeBetter_0 rfl (lv_at hl 2 rfl) ?_
  refine lv_aload_n hx hb dX1_mayBeBetter_1 rfl (lv_at hl 0 rfl) ?_
  refine z_get C Y (Cn := RX1) (T := TX1) (N := 16) in_X1_mayBeBetter_1 rfl (ge1_1 ..) 12 (by decide) fl_X1_mayBeBetter_34 rfl dX1_mayBeBetter_2 ?_
  refine lv_iload_n hx hb dX1_mayBeBetter_5 rfl (lv_at hl 1 rfl) ?_
  obtain ⟨hi, hv⟩ := hv
  refine z_ldI C Y (pa1_1_12 ..) hi dX1_mayBeBetter_6 ?_
  refine lv_icmp_gt (tgt := 75) hx hb dX1_mayBeBetter_7 (by decide) (fun hc => ?_) (fun hc => ?_)
  · have hv := hv.1 hc
    refine lv_iconst (v := 0) hx hb dX1_mayBeBetter_75 (by decide) ?_
    exact hret Y (Or.inl rfl) hv dX1_mayBeBetter_76
  · have hv := hv.2 hc
    refine lv_aload_n hx hb dX1_mayBeBetter_10 rfl (lv_at hl 0 rfl) ?_
    refine z_get C Y (Cn := RX1) (T := TX1) (N := 16) in_X1_mayBeBetter_1 rfl (ge1_1 ..) 6 (by decide) fl_X1_mayBeBetter_27 rfl dX1_mayBeBetter_11 ?_
    refine lv_iconst (v := (-1)) hx hb dX1_mayBeBetter_14 (by decide) ?_
    refine lv_icmp_eq (tgt := 35) hx hb dX1_mayBeBetter_15 (by decide) (fun hc => ?_) (fun hc => ?_)
    · have hv := hv.1 hc
      exact bk_X1_mayBeBetter_35 C Y (lv_sub hl [0, 1, 2, 4, 5] rfl) hret hv
    · have hv := hv.2 hc
      refine lv_iload_n hx hb dX1_mayBeBetter_18 rfl (lv_at hl 3 rfl) ?_
      refine lv_iload_n hx hb dX1_mayBeBetter_19 rfl (lv_at hl 2 rfl) ?_
      refine lv_aload_n hx hb dX1_mayBeBetter_20 rfl (lv_at hl 0 rfl) ?_
      refine z_get C Y (Cn := RX1) (T := TX1) (N := 16) in_X1_mayBeBetter_1 rfl (ge1_1 ..) 13 (by decide) fl_X1_mayBeBetter_37 rfl dX1_mayBeBetter_21 ?_
      refine lv_iload_n hx hb dX1_mayBeBetter_24 rfl (lv_at hl 1 rfl) ?_
      obtain ⟨hi, hv⟩ := hv
      refine z_ldI C Y (pa1_1_13 ..) hi dX1_mayBeBetter_25 ?_
      refine lv_imul hx hb dX1_mayBeBetter_26 ?_
      refine lv_iadd hx hb dX1_mayBeBetter_27 ?_
      refine lv_aload_n hx hb dX1_mayBeBetter_28 rfl (lv_at hl 0 rfl) ?_
      refine z_get C Y (Cn := RX1) (T := TX1) (N := 16) in_X1_mayBeBetter_1 rfl (ge1_1 ..) 6 (by decide) fl_X1_mayBeBetter_27 rfl dX1_mayBeBetter_29 ?_
      refine lv_icmp_ge (tgt := 75) hx hb dX1_mayBeBetter_32 (by decide) (fun hc => ?_) (fun hc => ?_)
      · have hv := hv.1 hc
        refine lv_iconst (v := 0) hx hb dX1_mayBeBetter_75 (by decide) ?_
        exact hret Y (Or.inl rfl) hv dX1_mayBeBetter_76
      · have hv := hv.2 hc
        exact bk_X1_mayBeBetter_35 C Y (lv_sub hl [0, 1, 2, 4, 5] rfl) hret hv

end
abbrev TX1_mayBeBetter := wp_X1_mayBeBetter_0
set_option maxHeartbeats 4000000 in
set_option maxRecDepth 100000 in
theorem c_X1_mayBeBetter (l : Launch) {D : va_G} {cI cZ cJ : ClassId} {a : Nat → Nat → Nat} {Q1 : Int32 → zSt → Prop} {p1 : Int32} {p2 : Int32} {p3 : Int32} {p4 : Int32} {p5 : Int32} {u1 : zSt} (hv : wp_X1_mayBeBetter_0 Q1 p1 p2 p3 p4 p5 u1) : zMI l yX1_mayBeBetter wsX1_mayBeBetter ({ frames := 0, cells := 0, slots := 0, locals := 0 } : Room) D cI cZ cJ [.ref (a 1 99), .int p1, .int p2, .int p3, .int p4, .int p5] (k1 a cI cZ u1) (fun u : zSt => k1 a cI cZ u) Q1 :=
  z_ofZ (by decide) rfl rfl (Nat.le_of_ble_eq_true rfl) (fun C Y hl hret => bk_X1_mayBeBetter_0 C Y hl hret hv)


theorem in_X1_choose_1 : ∀ w ∈ wsX10, w ∈ wsX1_choose := by first | exact fun w h => List.mem_cons_of_mem _ (List.mem_append_right _ h) | exact fun w h => List.mem_cons_of_mem _ (List.mem_append_left _ (List.mem_append_right _ h)) | decide +kernel
theorem fl_X1_choose_46 : Cond.fieldLink RX1 46 (TX1 4).1 (TX1 4).2.1 (TX1 4).2.2.1 ∈ wsX1_choose := by decide +kernel
section
variable {p : Program} {l : Launch} {e : Env} {s : State} {m : MethodId} {args : Array Value} {below : List Frame} {meth : Method} {c : Code} {H : Heap} {locs : List Loc} {Q : State → Prop} {D : va_G} {cI cZ cJ : ClassId} {A : Nat → Prop} {ls : Array Slot}
def wp_X1_choose_0 (TX1_chooseParts : (zSt → Prop) → Int32 → Int32 → Int32 → Int32 → Int32 → zSt → Prop) (Q1 : zSt → Prop) (p1 : Int32) (p2 : Int32) (p3 : Int32) (p4 : Int32) (p5 : Int32) (u1 : zSt) : Prop :=
  TX1_mayBeBetter (fun (r_2 : Int32) (u1_1 : zSt) => (r_2 = (0 : Int32) → Q1 u1_1) ∧ (¬ r_2 = (0 : Int32) → (p1 < (u1_1.1 4) → TX1_chooseParts (fun (u1_3 : zSt) => Q1 u1_3) p1 p2 p3 p4 p5 u1_1) ∧ (¬ p1 < (u1_1.1 4) → TX1_keep (fun (u1_5 : zSt) => Q1 u1_5) p3 p4 p5 u1_1))) p1 p2 p3 p4 p5 u1

set_option maxHeartbeats 4000000 in
set_option maxRecDepth 100000 in
theorem bk_X1_choose_0 {d : Nat} {a : Nat → Nat → Nat} {TX1_chooseParts : (zSt → Prop) → Int32 → Int32 → Int32 → Int32 → Int32 → zSt → Prop} {Q1 : zSt → Prop} {p1 : Int32} {p2 : Int32} {p3 : Int32} {p4 : Int32} {p5 : Int32} {u1 : zSt} (C : zCx p s m args c cX1_choose 6 RX1 wsX1_choose D cI cZ cJ A) (Y : zDy D A s.heap (k1 a cI cZ u1) H locs) (hl : lv_has ls 6 [(0, .ref (a 1 99)), (1, .int p1), (2, .int p2), (3, .int p3), (4, .int p4), (5, .int p5)]) (hr_X1_chooseParts : (∀ (Q1 : zSt → Prop) (p1 : Int32) (p2 : Int32) (p3 : Int32) (p4 : Int32) (p5 : Int32) (u1 : zSt), TX1_chooseParts Q1 p1 p2 p3 p4 p5 u1 → zMV l yX1_chooseParts wsX1_chooseParts (rmP d) D cI cZ cJ [.ref (a 1 99), .int p1, .int p2, .int p3, .int p4, .int p5] (k1 a cI cZ u1) (fun u : zSt => k1 a cI cZ u) Q1)) (hret : ∀ {pc : Nat} {H : Heap} {locs : List Loc} {ls : Array Slot} {u : zSt}, zDy D A s.heap ((fun u : zSt => k1 a cI cZ u) u) H locs → Q1 u → decode cX1_choose pc = .ok (.return_, 1) → W p l e (rmC (d + 1)) s m args below meth c H locs 0 0 Q (F0 m pc ls [])) (hv : wp_X1_choose_0 TX1_chooseParts Q1 p1 p2 p3 p4 p5 u1) : W p l e (rmC (d + 1)) s m args below meth c H locs 0 0 Q (F0 m 0 ls []) := by
  unfold wp_X1_choose_0 at hv
  obtain ⟨hx, hb, hml, hown, hts, hK, hA⟩ := id C
  refine lv_aload_n hx hb dX1_choose_0 rfl (lv_at hl 0 rfl) ?_
  refine lv_iload_n hx hb dX1_choose_1 rfl (lv_at hl 1 rfl) ?_
  refine lv_iload_n hx hb dX1_choose_2 rfl (lv_at hl 2 rfl) ?_
  refine lv_iload_n hx hb dX1_choose_3 rfl (lv_at hl 3 rfl) ?_
  refine lv_iload hx hb dX1_choose_4 (lv_at hl 4 rfl) ?_
  refine lv_iload hx hb dX1_choose_6 (lv_at hl 5 rfl) ?_
  refine z_callVi C Y (c_X1_mayBeBetter l hv) (zFr.self _ _) (cwV 5 hts gX1_choose_X1_mayBeBetter rfl rfl rfl (by decide +kernel) ⟨(by first | exact Nat.le_of_ble_eq_true rfl | (simp only [rmC, rmP, rmG, List.map, List.sum_cons, List.sum_nil, Value.category]; omega)), (by first | exact Nat.le_of_ble_eq_true rfl | (simp only [rmC, rmP, rmG, List.map, List.sum_cons, List.sum_nil, Value.category]; omega))⟩) (ge1_1 ..) rfl rfl rfl hl.1 rfl (Nat.le_of_ble_eq_true rfl) dX1_choose_8 ⟨Nat.zero_le _, Nat.zero_le _⟩ (fun r_2 u1_1 H locs Y hv => ?_)
  refine lv_if_ne (tgt := 15) hx hb dX1_choose_11 (by decide) (fun hc => ?_) (fun hc => ?_)
  · have hv := hv.2 hc
    refine lv_iload_n hx hb dX1_choose_15 rfl (lv_at hl 1 rfl) ?_
    refine lv_aload_n hx hb dX1_choose_16 rfl (lv_at hl 0 rfl) ?_
    refine z_get C Y (Cn := RX1) (T := TX1) (N := 16) in_X1_choose_1 rfl (ge1_1 ..) 4 (by decide) fl_X1_choose_46 rfl dX1_choose_17 ?_
    refine lv_icmp_lt (tgt := 35) hx hb dX1_choose_20 (by decide) (fun hc => ?_) (fun hc => ?_)
    · have hv := hv.1 hc
      refine lv_aload_n hx hb dX1_choose_35 rfl (lv_at hl 0 rfl) ?_
      refine lv_iload_n hx hb dX1_choose_36 rfl (lv_at hl 1 rfl) ?_
      refine lv_iload_n hx hb dX1_choose_37 rfl (lv_at hl 2 rfl) ?_
      refine lv_iload_n hx hb dX1_choose_38 rfl (lv_at hl 3 rfl) ?_
      refine lv_iload hx hb dX1_choose_39 (lv_at hl 4 rfl) ?_
      refine lv_iload hx hb dX1_choose_41 (lv_at hl 5 rfl) ?_
      refine z_callVv C Y (hr_X1_chooseParts _ _ _ _ _ _ _ hv) (zFr.self _ _) (cwV 5 hts gX1_choose_X1_chooseParts rfl rfl rfl (by decide +kernel) ⟨(by first | exact Nat.le_of_ble_eq_true rfl | (simp only [rmC, rmP, rmG, List.map, List.sum_cons, List.sum_nil, Value.category]; omega)), (by first | exact Nat.le_of_ble_eq_true rfl | (simp only [rmC, rmP, rmG, List.map, List.sum_cons, List.sum_nil, Value.category]; omega))⟩) (ge1_1 ..) rfl rfl rfl hl.1 rfl (Nat.le_of_ble_eq_true rfl) dX1_choose_43 ⟨Nat.zero_le _, Nat.zero_le _⟩ (fun u1_3 H locs Y hv => ?_)
      exact hret Y hv dX1_choose_46
    · have hv := hv.2 hc
      refine lv_aload_n hx hb dX1_choose_23 rfl (lv_at hl 0 rfl) ?_
      refine lv_iload_n hx hb dX1_choose_24 rfl (lv_at hl 3 rfl) ?_
      refine lv_iload hx hb dX1_choose_25 (lv_at hl 4 rfl) ?_
      refine lv_iload hx hb dX1_choose_27 (lv_at hl 5 rfl) ?_
      refine z_callVv C Y (c_X1_keep l hv) (zFr.self _ _) (cwV 3 hts gX1_choose_X1_keep rfl rfl rfl (by decide +kernel) ⟨(by first | exact Nat.le_of_ble_eq_true rfl | (simp only [rmC, rmP, rmG, List.map, List.sum_cons, List.sum_nil, Value.category]; omega)), (by first | exact Nat.le_of_ble_eq_true rfl | (simp only [rmC, rmP, rmG, List.map, List.sum_cons, List.sum_nil, Value.category]; omega))⟩) (ge1_1 ..) rfl rfl rfl hl.1 rfl (Nat.le_of_ble_eq_true rfl) dX1_choose_29 ⟨Nat.zero_le _, Nat.zero_le _⟩ (fun u1_5 H locs Y hv => ?_)
      refine lv_goto (tgt := 46) hx hb dX1_choose_32 (by decide) ?_
      exact hret Y hv dX1_choose_46
  · have hv := hv.1 hc
    exact hret Y hv dX1_choose_14

end
set_option maxHeartbeats 4000000 in
set_option maxRecDepth 100000 in
theorem k_X1_choose (l : Launch) {d : Nat} {D : va_G} {cI cZ cJ : ClassId} {a : Nat → Nat → Nat} {TX1_chooseParts : (zSt → Prop) → Int32 → Int32 → Int32 → Int32 → Int32 → zSt → Prop} {Q1 : zSt → Prop} {p1 : Int32} {p2 : Int32} {p3 : Int32} {p4 : Int32} {p5 : Int32} {u1 : zSt} (hr_X1_chooseParts : (∀ (Q1 : zSt → Prop) (p1 : Int32) (p2 : Int32) (p3 : Int32) (p4 : Int32) (p5 : Int32) (u1 : zSt), TX1_chooseParts Q1 p1 p2 p3 p4 p5 u1 → zMV l yX1_chooseParts wsX1_chooseParts (rmP d) D cI cZ cJ [.ref (a 1 99), .int p1, .int p2, .int p3, .int p4, .int p5] (k1 a cI cZ u1) (fun u : zSt => k1 a cI cZ u) Q1)) (hv : wp_X1_choose_0 TX1_chooseParts Q1 p1 p2 p3 p4 p5 u1) : zMV l yX1_choose wsX1_choose (rmC (d + 1)) D cI cZ cJ [.ref (a 1 99), .int p1, .int p2, .int p3, .int p4, .int p5] (k1 a cI cZ u1) (fun u : zSt => k1 a cI cZ u) Q1 :=
  z_ofV (by decide) rfl rfl (Nat.le_of_ble_eq_true rfl) (fun C Y hl hret => bk_X1_choose_0 C Y hl hr_X1_chooseParts hret hv)


theorem in_X1_chooseParts_1 : ∀ w ∈ wsX10, w ∈ wsX1_chooseParts := by first | exact fun w h => List.mem_cons_of_mem _ (List.mem_append_right _ h) | exact fun w h => List.mem_cons_of_mem _ (List.mem_append_left _ (List.mem_append_right _ h)) | decide +kernel
theorem fl_X1_chooseParts_9 : Cond.fieldLink RX1 9 (TX1 0).1 (TX1 0).2.1 (TX1 0).2.2.1 ∈ wsX1_chooseParts := by decide +kernel
theorem fl_X1_chooseParts_15 : Cond.fieldLink RX1 15 (TX1 1).1 (TX1 1).2.1 (TX1 1).2.2.1 ∈ wsX1_chooseParts := by decide +kernel
theorem fl_X1_chooseParts_18 : Cond.fieldLink RX1 18 (TX1 2).1 (TX1 2).2.1 (TX1 2).2.2.1 ∈ wsX1_chooseParts := by decide +kernel
theorem fl_X1_chooseParts_21 : Cond.fieldLink RX1 21 (TX1 3).1 (TX1 3).2.1 (TX1 3).2.2.1 ∈ wsX1_chooseParts := by decide +kernel
theorem fl_X1_chooseParts_31 : Cond.fieldLink RX1 31 (TX1 9).1 (TX1 9).2.1 (TX1 9).2.2.1 ∈ wsX1_chooseParts := by decide +kernel
theorem mm_X1_chooseParts_min : z_mw RX1 62 Lib.Math.min.name Lib.Math.min.code wsX1_chooseParts := ⟨by decide +kernel, by decide +kernel, by decide +kernel, by decide +kernel⟩
section
variable {p : Program} {l : Launch} {e : Env} {s : State} {m : MethodId} {args : Array Value} {below : List Frame} {meth : Method} {c : Code} {H : Heap} {locs : List Loc} {Q : State → Prop} {D : va_G} {cI cZ cJ : ClassId} {A : Nat → Prop} {ls : Array Slot}
def wp_X1_chooseParts_0 (TX1_choose : (zSt → Prop) → Int32 → Int32 → Int32 → Int32 → Int32 → zSt → Prop) (J15 : Int32 → Int32 → Int32 → Int32 → Int32 → Int32 → Int32 → zSt → Prop) (Q1 : zSt → Prop) (p1 : Int32) (p2 : Int32) (p3 : Int32) (p4 : Int32) (p5 : Int32) (u1 : zSt) : Prop :=
  vp_in p1 6 ∧ (∀ x6_1 : Int32, x6_1 = (if (u1.2 3 p1.toNatClampNeg) < p2 then (u1.2 3 p1.toNatClampNeg) else p2) → ∀ x7_2 : Int32, x7_2 = 0 → J15 p1 p2 p3 p4 p5 x6_1 x7_2 u1)

set_option maxHeartbeats 4000000 in
set_option maxRecDepth 100000 in
theorem bk_X1_chooseParts_0 {d : Nat} {a : Nat → Nat → Nat} {TX1_choose : (zSt → Prop) → Int32 → Int32 → Int32 → Int32 → Int32 → zSt → Prop} {J15 : Int32 → Int32 → Int32 → Int32 → Int32 → Int32 → Int32 → zSt → Prop} {Q1 : zSt → Prop} {p1 : Int32} {p2 : Int32} {p3 : Int32} {p4 : Int32} {p5 : Int32} {u1 : zSt} (C : zCx p s m args c cX1_chooseParts 8 RX1 wsX1_chooseParts D cI cZ cJ A) (Y : zDy D A s.heap (k1 a cI cZ u1) H locs) (hl : lv_has ls 8 [(0, .ref (a 1 99)), (1, .int p1), (2, .int p2), (3, .int p3), (4, .int p4), (5, .int p5)]) (hr_X1_choose : (∀ (Q1 : zSt → Prop) (p1 : Int32) (p2 : Int32) (p3 : Int32) (p4 : Int32) (p5 : Int32) (u1 : zSt), TX1_choose Q1 p1 p2 p3 p4 p5 u1 → zMV l yX1_choose wsX1_choose (rmC d) D cI cZ cJ [.ref (a 1 99), .int p1, .int p2, .int p3, .int p4, .int p5] (k1 a cI cZ u1) (fun u : zSt => k1 a cI cZ u) Q1)) (hret : ∀ {pc : Nat} {H : Heap} {locs : List Loc} {ls : Array Slot} {u : zSt}, zDy D A s.heap ((fun u : zSt => k1 a cI cZ u) u) H locs → Q1 u → decode cX1_chooseParts pc = .ok (.return_, 1) → W p l e (rmP d) s m args below meth c H locs 0 0 Q (F0 m pc ls [])) (hJ15 : ∀ (x1 : Int32) (x2 : Int32) (x3 : Int32) (x4 : Int32) (x5 : Int32) (x6 : Int32) (x7 : Int32) (u1 : zSt) (H : Heap) (locs : List Loc) (ls : Array Slot), J15 x1 x2 x3 x4 x5 x6 x7 u1 → zDy D A s.heap (k1 a cI cZ u1) H locs → lv_has ls 8 [(0, .ref (a 1 99)), (1, .int x1), (2, .int x2), (3, .int x3), (4, .int x4), (5, .int x5), (6, .int x6), (7, .int x7)] → W p l e (rmP d) s m args below meth c H locs 0 0 Q (F0 m 15 ls [])) (hv : wp_X1_chooseParts_0 TX1_choose J15 Q1 p1 p2 p3 p4 p5 u1) : W p l e (rmP d) s m args below meth c H locs 0 0 Q (F0 m 0 ls []) := by
  unfold wp_X1_chooseParts_0 at hv
  obtain ⟨hx, hb, hml, hown, hts, hK, hA⟩ := id C
  refine lv_iload_n hx hb dX1_chooseParts_0 rfl (lv_at hl 2 rfl) ?_
  refine lv_aload_n hx hb dX1_chooseParts_1 rfl (lv_at hl 0 rfl) ?_
  refine z_get C Y (Cn := RX1) (T := TX1) (N := 16) in_X1_chooseParts_1 rfl (ge1_1 ..) 3 (by decide) fl_X1_chooseParts_21 rfl dX1_chooseParts_2 ?_
  refine lv_iload_n hx hb dX1_chooseParts_5 rfl (lv_at hl 1 rfl) ?_
  obtain ⟨hi, hv⟩ := hv
  refine z_ldI C Y (pa1_1_3 ..) hi dX1_chooseParts_6 ?_
  refine z_mmin C hl.1 mm_X1_chooseParts_min (by first | exact Nat.le_of_ble_eq_true rfl | (simp only [rmC, rmP, rmG, List.map, List.sum_cons, List.sum_nil, Value.category]; omega)) (by first | exact Nat.le_of_ble_eq_true rfl | (simp only [rmC, rmP, rmG, List.map, List.sum_cons, List.sum_nil, Value.category]; omega)) (Nat.zero_le _) (Nat.zero_le _) dX1_chooseParts_7 ?_
  refine z_topi hv (fun x6_1 ex6_1 hv => ?_)
  refine lv_istore (lv' := [(6, .int x6_1), (0, .ref (a 1 99)), (1, .int p1), (2, .int p2), (3, .int p3), (4, .int p4), (5, .int p5)]) hx hb dX1_chooseParts_10 hl (by decide) rfl (fun ls hl => ?_)
  refine lv_iconst (v := 0) hx hb dX1_chooseParts_12 (by decide) ?_
  refine z_topi hv (fun x7_2 ex7_2 hv => ?_)
  refine lv_istore (lv' := [(7, .int x7_2), (6, .int x6_1), (0, .ref (a 1 99)), (1, .int p1), (2, .int p2), (3, .int p3), (4, .int p4), (5, .int p5)]) hx hb dX1_chooseParts_13 hl (by decide) rfl (fun ls hl => ?_)
  exact hJ15 _ _ _ _ _ _ _ _ _ _ _ hv Y (lv_sub hl [2, 3, 4, 5, 6, 7, 1, 0] rfl)

def wp_X1_chooseParts_15 (TX1_choose : (zSt → Prop) → Int32 → Int32 → Int32 → Int32 → Int32 → zSt → Prop) (J15 : Int32 → Int32 → Int32 → Int32 → Int32 → Int32 → Int32 → zSt → Prop) (Q1 : zSt → Prop) (x1 : Int32) (x2 : Int32) (x3 : Int32) (x4 : Int32) (x5 : Int32) (x6 : Int32) (x7 : Int32) (u1 : zSt) : Prop :=
  (x6 < x7 → Q1 u1) ∧ (¬ x6 < x7 → vp_in x1 6 ∧ (∀ u1_1 : zSt, u1_1 = zA u1 9 (upd (u1.2 9) x1.toNatClampNeg x7) → vp_in x1 6 ∧ (vp_in x1 6 ∧ (vp_in x1 6 ∧ (TX1_choose (fun (u1_2 : zSt) => ∀ x7_4 : Int32, x7_4 = x7 + 1 → J15 x1 x2 x3 x4 x5 x6 x7_4 u1_2) (x1 + 1) (x2 - x7) (x3 + (x7 * (u1_1.2 2 x1.toNatClampNeg))) (x4 + (x7 * (u1_1.2 0 x1.toNatClampNeg))) (x5 + (x7 * (u1_1.2 1 x1.toNatClampNeg))) u1_1)))))

set_option maxHeartbeats 4000000 in
set_option maxRecDepth 100000 in
theorem bk_X1_chooseParts_15 {d : Nat} {a : Nat → Nat → Nat} {TX1_choose : (zSt → Prop) → Int32 → Int32 → Int32 → Int32 → Int32 → zSt → Prop} {J15 : Int32 → Int32 → Int32 → Int32 → Int32 → Int32 → Int32 → zSt → Prop} {Q1 : zSt → Prop} {x1 : Int32} {x2 : Int32} {x3 : Int32} {x4 : Int32} {x5 : Int32} {x6 : Int32} {x7 : Int32} {u1 : zSt} (C : zCx p s m args c cX1_chooseParts 8 RX1 wsX1_chooseParts D cI cZ cJ A) (Y : zDy D A s.heap (k1 a cI cZ u1) H locs) (hl : lv_has ls 8 [(0, .ref (a 1 99)), (1, .int x1), (2, .int x2), (3, .int x3), (4, .int x4), (5, .int x5), (6, .int x6), (7, .int x7)]) (hr_X1_choose : (∀ (Q1 : zSt → Prop) (p1 : Int32) (p2 : Int32) (p3 : Int32) (p4 : Int32) (p5 : Int32) (u1 : zSt), TX1_choose Q1 p1 p2 p3 p4 p5 u1 → zMV l yX1_choose wsX1_choose (rmC d) D cI cZ cJ [.ref (a 1 99), .int p1, .int p2, .int p3, .int p4, .int p5] (k1 a cI cZ u1) (fun u : zSt => k1 a cI cZ u) Q1)) (hret : ∀ {pc : Nat} {H : Heap} {locs : List Loc} {ls : Array Slot} {u : zSt}, zDy D A s.heap ((fun u : zSt => k1 a cI cZ u) u) H locs → Q1 u → decode cX1_chooseParts pc = .ok (.return_, 1) → W p l e (rmP d) s m args below meth c H locs 0 0 Q (F0 m pc ls [])) (hJ15 : ∀ (x1 : Int32) (x2 : Int32) (x3 : Int32) (x4 : Int32) (x5 : Int32) (x6 : Int32) (x7 : Int32) (u1 : zSt) (H : Heap) (locs : List Loc) (ls : Array Slot), J15 x1 x2 x3 x4 x5 x6 x7 u1 → zDy D A s.heap (k1 a cI cZ u1) H locs → lv_has ls 8 [(0, .ref (a 1 99)), (1, .int x1), (2, .int x2), (3, .int x3), (4, .int x4), (5, .int x5), (6, .int x6), (7, .int x7)] → W p l e (rmP d) s m args below meth c H locs 0 0 Q (F0 m 15 ls [])) (hv : wp_X1_chooseParts_15 TX1_choose J15 Q1 x1 x2 x3 x4 x5 x6 x7 u1) : W p l e (rmP d) s m args below meth c H locs 0 0 Q (F0 m 15 ls []) := by
  unfold wp_X1_chooseParts_15 at hv
  obtain ⟨hx, hb, hml, hown, hts, hK, hA⟩ := id C
  refine lv_iload hx hb dX1_chooseParts_15 (lv_at hl 7 rfl) ?_
  refine lv_iload hx hb dX1_chooseParts_17 (lv_at hl 6 rfl) ?_
  refine lv_icmp_gt (tgt := 82) hx hb dX1_chooseParts_19 (by decide) (fun hc => ?_) (fun hc => ?_)
  · have hv := hv.1 hc
    exact hret Y hv dX1_chooseParts_82
  · have hv := hv.2 hc
    refine lv_aload_n hx hb dX1_chooseParts_22 rfl (lv_at hl 0 rfl) ?_
    refine z_get C Y (Cn := RX1) (T := TX1) (N := 16) in_X1_chooseParts_1 rfl (ge1_1 ..) 9 (by decide) fl_X1_chooseParts_31 rfl dX1_chooseParts_23 ?_
    refine lv_iload_n hx hb dX1_chooseParts_26 rfl (lv_at hl 1 rfl) ?_
    refine lv_iload hx hb dX1_chooseParts_27 (lv_at hl 7 rfl) ?_
    obtain ⟨hi, hv⟩ := hv
    refine z_stI C Y (pa1_1_9 ..) (sa1_1_9 ..) hi dX1_chooseParts_29 (fun H locs Y => ?_)
    obtain ⟨u1_1, eu1_1, Y, hv⟩ := z_nm (kf := fun z => (k1 a cI cZ z)) Y hv
    refine lv_aload_n hx hb dX1_chooseParts_30 rfl (lv_at hl 0 rfl) ?_
    refine lv_iload_n hx hb dX1_chooseParts_31 rfl (lv_at hl 1 rfl) ?_
    refine lv_iconst (v := 1) hx hb dX1_chooseParts_32 (by decide) ?_
    refine lv_iadd hx hb dX1_chooseParts_33 ?_
    refine lv_iload_n hx hb dX1_chooseParts_34 rfl (lv_at hl 2 rfl) ?_
    refine lv_iload hx hb dX1_chooseParts_35 (lv_at hl 7 rfl) ?_
    refine lv_isub hx hb dX1_chooseParts_37 ?_
    refine lv_iload_n hx hb dX1_chooseParts_38 rfl (lv_at hl 3 rfl) ?_
    refine lv_iload hx hb dX1_chooseParts_39 (lv_at hl 7 rfl) ?_
    refine lv_aload_n hx hb dX1_chooseParts_41 rfl (lv_at hl 0 rfl) ?_
    refine z_get C Y (Cn := RX1) (T := TX1) (N := 16) in_X1_chooseParts_1 rfl (ge1_1 ..) 2 (by decide) fl_X1_chooseParts_18 rfl dX1_chooseParts_42 ?_
    refine lv_iload_n hx hb dX1_chooseParts_45 rfl (lv_at hl 1 rfl) ?_
    obtain ⟨hi, hv⟩ := hv
    refine z_ldI C Y (pa1_1_2 ..) hi dX1_chooseParts_46 ?_
    refine lv_imul hx hb dX1_chooseParts_47 ?_
    refine lv_iadd hx hb dX1_chooseParts_48 ?_
    refine lv_iload hx hb dX1_chooseParts_49 (lv_at hl 4 rfl) ?_
    refine lv_iload hx hb dX1_chooseParts_51 (lv_at hl 7 rfl) ?_
    refine lv_aload_n hx hb dX1_chooseParts_53 rfl (lv_at hl 0 rfl) ?_
    refine z_get C Y (Cn := RX1) (T := TX1) (N := 16) in_X1_chooseParts_1 rfl (ge1_1 ..) 0 (by decide) fl_X1_chooseParts_9 rfl dX1_chooseParts_54 ?_
    refine lv_iload_n hx hb dX1_chooseParts_57 rfl (lv_at hl 1 rfl) ?_
    obtain ⟨hi, hv⟩ := hv
    refine z_ldI C Y (pa1_1_0 ..) hi dX1_chooseParts_58 ?_
    refine lv_imul hx hb dX1_chooseParts_59 ?_
    refine lv_iadd hx hb dX1_chooseParts_60 ?_
    refine lv_iload hx hb dX1_chooseParts_61 (lv_at hl 5 rfl) ?_
    refine lv_iload hx hb dX1_chooseParts_63 (lv_at hl 7 rfl) ?_
    refine lv_aload_n hx hb dX1_chooseParts_65 rfl (lv_at hl 0 rfl) ?_
    refine z_get C Y (Cn := RX1) (T := TX1) (N := 16) in_X1_chooseParts_1 rfl (ge1_1 ..) 1 (by decide) fl_X1_chooseParts_15 rfl dX1_chooseParts_66 ?_
    refine lv_iload_n hx hb dX1_chooseParts_69 rfl (lv_at hl 1 rfl) ?_
    obtain ⟨hi, hv⟩ := hv
    refine z_ldI C Y (pa1_1_1 ..) hi dX1_chooseParts_70 ?_
    refine lv_imul hx hb dX1_chooseParts_71 ?_
    refine lv_iadd hx hb dX1_chooseParts_72 ?_
    refine z_callVv C Y (hr_X1_choose _ _ _ _ _ _ _ hv) (zFr.self _ _) (cwV 5 hts gX1_chooseParts_X1_choose rfl rfl rfl (by decide +kernel) ⟨(by first | exact Nat.le_of_ble_eq_true rfl | (simp only [rmC, rmP, rmG, List.map, List.sum_cons, List.sum_nil, Value.category]; omega)), (by first | exact Nat.le_of_ble_eq_true rfl | (simp only [rmC, rmP, rmG, List.map, List.sum_cons, List.sum_nil, Value.category]; omega))⟩) (ge1_1 ..) rfl rfl rfl hl.1 rfl (Nat.le_of_ble_eq_true rfl) dX1_chooseParts_73 ⟨Nat.zero_le _, Nat.zero_le _⟩ (fun u1_2 H locs Y hv => ?_)
    obtain ⟨x7_4, ex7_4, hv⟩ := z_nv hv
    refine lv_iinc (v := x7_4) (lv' := [(7, .int x7_4), (0, .ref (a 1 99)), (1, .int x1), (2, .int x2), (3, .int x3), (4, .int x4), (5, .int x5), (6, .int x6)]) hx hb dX1_chooseParts_76 hl (k := 7) rfl (by rw [ex7_4]; rfl) (by decide) rfl (fun ls hl => ?_)
    refine lv_goto (tgt := 15) hx hb dX1_chooseParts_79 (by decide) ?_
    exact hJ15 _ _ _ _ _ _ _ _ _ _ _ hv Y (lv_sub hl [1, 2, 3, 4, 5, 6, 7, 0] rfl)

end
set_option maxHeartbeats 4000000 in
set_option maxRecDepth 100000 in
theorem k_X1_chooseParts (l : Launch) {d : Nat} {D : va_G} {cI cZ cJ : ClassId} {a : Nat → Nat → Nat} {TX1_choose : (zSt → Prop) → Int32 → Int32 → Int32 → Int32 → Int32 → zSt → Prop} {Q1 : zSt → Prop} {p1 : Int32} {p2 : Int32} {p3 : Int32} {p4 : Int32} {p5 : Int32} {u1 : zSt} (hr_X1_choose : (∀ (Q1 : zSt → Prop) (p1 : Int32) (p2 : Int32) (p3 : Int32) (p4 : Int32) (p5 : Int32) (u1 : zSt), TX1_choose Q1 p1 p2 p3 p4 p5 u1 → zMV l yX1_choose wsX1_choose (rmC d) D cI cZ cJ [.ref (a 1 99), .int p1, .int p2, .int p3, .int p4, .int p5] (k1 a cI cZ u1) (fun u : zSt => k1 a cI cZ u) Q1)) (I15 : Nat → Int32 → Int32 → Int32 → Int32 → Int32 → Int32 → Int32 → zSt → Prop)
    (hv : wp_X1_chooseParts_0 TX1_choose (fun x1 x2 x3 x4 x5 x6 x7 u1 => ∃ n : Nat, I15 n x1 x2 x3 x4 x5 x6 x7 u1) Q1 p1 p2 p3 p4 p5 u1)
    (hI15 : ∀ (n : Nat) (x1 : Int32) (x2 : Int32) (x3 : Int32) (x4 : Int32) (x5 : Int32) (x6 : Int32) (x7 : Int32) (u1 : zSt), I15 n x1 x2 x3 x4 x5 x6 x7 u1 → wp_X1_chooseParts_15 TX1_choose (fun x1 x2 x3 x4 x5 x6 x7 u1 => ∃ k : Nat, k < n ∧ I15 k x1 x2 x3 x4 x5 x6 x7 u1) Q1 x1 x2 x3 x4 x5 x6 x7 u1) : zMV l yX1_chooseParts wsX1_chooseParts (rmP d) D cI cZ cJ [.ref (a 1 99), .int p1, .int p2, .int p3, .int p4, .int p5] (k1 a cI cZ u1) (fun u : zSt => k1 a cI cZ u) Q1 := by
  refine z_ofV (by decide) rfl rfl (Nat.le_of_ble_eq_true rfl) (@fun p e s m args below meth c A Q ls C Y hl hret => ?_)
  have key : ∀ n : Nat, (∀ (x1 : Int32) (x2 : Int32) (x3 : Int32) (x4 : Int32) (x5 : Int32) (x6 : Int32) (x7 : Int32) (u1 : zSt) (H : Heap) (locs : List Loc) (ls : Array Slot), I15 n x1 x2 x3 x4 x5 x6 x7 u1 → zDy D A s.heap (k1 a cI cZ u1) H locs → lv_has ls 8 [(0, .ref (a 1 99)), (1, .int x1), (2, .int x2), (3, .int x3), (4, .int x4), (5, .int x5), (6, .int x6), (7, .int x7)] → W p l e (rmP d) s m args below meth c H locs 0 0 Q (F0 m 15 ls [])) := by
    intro n
    induction n using Nat.strongRecOn with
    | _ n ih =>
      exact fun x1 x2 x3 x4 x5 x6 x7 u1 H locs ls hi Y hl => bk_X1_chooseParts_15 C Y hl hr_X1_choose hret (fun y0 y1 y2 y3 y4 y5 y6 y7 H locs ls hi Y hl => by obtain ⟨k, hk, hi⟩ := hi; exact (ih k hk) y0 y1 y2 y3 y4 y5 y6 y7 H locs ls hi Y hl) (hI15 n x1 x2 x3 x4 x5 x6 x7 u1 hi)
  exact bk_X1_chooseParts_0 C Y hl hr_X1_choose hret (fun y0 y1 y2 y3 y4 y5 y6 y7 H locs ls hi Y hl => by obtain ⟨n, hi⟩ := hi; exact (key n) y0 y1 y2 y3 y4 y5 y6 y7 H locs ls hi Y hl) hv


def TPX1_chooseParts (TX1_choose : (zSt → Prop) → Int32 → Int32 → Int32 → Int32 → Int32 → zSt → Prop) (Q1 : zSt → Prop) (p1 : Int32) (p2 : Int32) (p3 : Int32) (p4 : Int32) (p5 : Int32) (u1 : zSt) : Prop := ∃ I15 : Nat → Int32 → Int32 → Int32 → Int32 → Int32 → Int32 → Int32 → zSt → Prop, (wp_X1_chooseParts_0 TX1_choose (fun x1 x2 x3 x4 x5 x6 x7 u1 => ∃ n : Nat, I15 n x1 x2 x3 x4 x5 x6 x7 u1) Q1 p1 p2 p3 p4 p5 u1) ∧ (∀ (n : Nat) (x1 : Int32) (x2 : Int32) (x3 : Int32) (x4 : Int32) (x5 : Int32) (x6 : Int32) (x7 : Int32) (u1 : zSt), I15 n x1 x2 x3 x4 x5 x6 x7 u1 → wp_X1_chooseParts_15 TX1_choose (fun x1 x2 x3 x4 x5 x6 x7 u1 => ∃ k : Nat, k < n ∧ I15 k x1 x2 x3 x4 x5 x6 x7 u1) Q1 x1 x2 x3 x4 x5 x6 x7 u1)
def TRX1_choose : Nat → (zSt → Prop) → Int32 → Int32 → Int32 → Int32 → Int32 → zSt → Prop
  | 0 => fun _ _ _ _ _ _ _ => False
  | d + 1 => fun Q1 p1 p2 p3 p4 p5 u1 => wp_X1_choose_0 (TPX1_chooseParts (TRX1_choose d)) Q1 p1 p2 p3 p4 p5 u1
theorem cr_X1_choose (l : Launch) {D : va_G} {cI cZ cJ : ClassId} {a : Nat → Nat → Nat} : ∀ (d : Nat) (Q1 : zSt → Prop) (p1 : Int32) (p2 : Int32) (p3 : Int32) (p4 : Int32) (p5 : Int32) (u1 : zSt), TRX1_choose d Q1 p1 p2 p3 p4 p5 u1 → zMV l yX1_choose wsX1_choose (rmC d) D cI cZ cJ [.ref (a 1 99), .int p1, .int p2, .int p3, .int p4, .int p5] (k1 a cI cZ u1) (fun u : zSt => k1 a cI cZ u) Q1 := by
  intro d
  induction d with
  | zero => intro Q1 p1 p2 p3 p4 p5 u1 hv; exact hv.elim
  | succ d ih =>
    intro Q1 p1 p2 p3 p4 p5 u1 hv
    refine k_X1_choose l (TX1_chooseParts := TPX1_chooseParts (TRX1_choose d)) (fun Q1 p1 p2 p3 p4 p5 u1 hv => ?_) hv
    obtain ⟨I15, hv, hI15⟩ := hv
    exact k_X1_chooseParts l ih I15 hv hI15
abbrev TX1_choose := TRX1_choose 8
theorem c_X1_choose (l : Launch) {D : va_G} {cI cZ cJ : ClassId} {a : Nat → Nat → Nat} {Q1 : zSt → Prop} {p1 : Int32} {p2 : Int32} {p3 : Int32} {p4 : Int32} {p5 : Int32} {u1 : zSt} (hv : TX1_choose Q1 p1 p2 p3 p4 p5 u1) : zMV l yX1_choose wsX1_choose (rmC 8) D cI cZ cJ [.ref (a 1 99), .int p1, .int p2, .int p3, .int p4, .int p5] (k1 a cI cZ u1) (fun u : zSt => k1 a cI cZ u) Q1 := cr_X1_choose l 8 Q1 p1 p2 p3 p4 p5 u1 hv

theorem in_X1_seek_1 : ∀ w ∈ wsX10, w ∈ wsX1_seek := by first | exact fun w h => List.mem_cons_of_mem _ (List.mem_append_right _ h) | exact fun w h => List.mem_cons_of_mem _ (List.mem_append_left _ (List.mem_append_right _ h)) | decide +kernel
theorem fl_X1_seek_27 : Cond.fieldLink RX1 27 (TX1 6).1 (TX1 6).2.1 (TX1 6).2.2.1 ∈ wsX1_seek := by decide +kernel
theorem fl_X1_seek_49 : Cond.fieldLink RX1 49 (TX1 10).1 (TX1 10).2.1 (TX1 10).2.2.1 ∈ wsX1_seek := by decide +kernel
theorem fl_X1_seek_52 : Cond.fieldLink RX1 52 (TX1 11).1 (TX1 11).2.1 (TX1 11).2.2.1 ∈ wsX1_seek := by decide +kernel
section
variable {p : Program} {l : Launch} {e : Env} {s : State} {m : MethodId} {args : Array Value} {below : List Frame} {meth : Method} {c : Code} {H : Heap} {locs : List Loc} {Q : State → Prop} {D : va_G} {cI cZ cJ : ClassId} {A : Nat → Prop} {ls : Array Slot}
def wp_X1_seek_0 (Q1 : zSt → Prop) (p1 : Int32) (p2 : Int32) (u1 : zSt) : Prop :=
  ∀ u1_1 : zSt, u1_1 = zI u1 6 (-1) → ∀ u1_2 : zSt, u1_2 = zI u1_1 10 (p1 * 10) → ∀ u1_3 : zSt, u1_3 = zI u1_2 11 (p2 * 10) → TX1_setBounds (fun (u1_4 : zSt) => TX1_choose (fun (u1_6 : zSt) => Q1 u1_6) 0 10 0 0 0 u1_4)  u1_3

set_option maxHeartbeats 4000000 in
set_option maxRecDepth 100000 in
theorem bk_X1_seek_0 {a : Nat → Nat → Nat} {Q1 : zSt → Prop} {p1 : Int32} {p2 : Int32} {u1 : zSt} (C : zCx p s m args c cX1_seek 3 RX1 wsX1_seek D cI cZ cJ A) (Y : zDy D A s.heap (k1 a cI cZ u1) H locs) (hl : lv_has ls 3 [(0, .ref (a 1 99)), (1, .int p1), (2, .int p2)]) (hret : ∀ {pc : Nat} {H : Heap} {locs : List Loc} {ls : Array Slot} {u : zSt}, zDy D A s.heap ((fun u : zSt => k1 a cI cZ u) u) H locs → Q1 u → decode cX1_seek pc = .ok (.return_, 1) → W p l e ({ frames := 19, cells := 0, slots := 0, locals := 565 } : Room) s m args below meth c H locs 0 0 Q (F0 m pc ls [])) (hv : wp_X1_seek_0 Q1 p1 p2 u1) : W p l e ({ frames := 19, cells := 0, slots := 0, locals := 565 } : Room) s m args below meth c H locs 0 0 Q (F0 m 0 ls []) := by
  unfold wp_X1_seek_0 at hv
  obtain ⟨hx, hb, hml, hown, hts, hK, hA⟩ := id C
  refine lv_aload_n hx hb dX1_seek_0 rfl (lv_at hl 0 rfl) ?_
  refine lv_iconst (v := (-1)) hx hb dX1_seek_1 (by decide) ?_
  refine z_putI C Y (Cn := RX1) (T := TX1) (N := 16) in_X1_seek_1 rfl tyX1 tyX1_ok nmX1 (ge1_1 ..) 6 (by decide) fl_X1_seek_27 rfl (by decide +kernel) (Nat.le_of_ble_eq_true rfl) (si1_1_6 ..) dX1_seek_2 (fun H locs Y => ?_)
  obtain ⟨u1_1, eu1_1, Y, hv⟩ := z_nm (kf := fun z => (k1 a cI cZ z)) Y hv
  refine lv_aload_n hx hb dX1_seek_5 rfl (lv_at hl 0 rfl) ?_
  refine lv_iload_n hx hb dX1_seek_6 rfl (lv_at hl 1 rfl) ?_
  refine lv_bipush (v := 10) hx hb dX1_seek_7 (by decide) ?_
  refine lv_imul hx hb dX1_seek_9 ?_
  refine z_putI C Y (Cn := RX1) (T := TX1) (N := 16) in_X1_seek_1 rfl tyX1 tyX1_ok nmX1 (ge1_1 ..) 10 (by decide) fl_X1_seek_49 rfl (by decide +kernel) (Nat.le_of_ble_eq_true rfl) (si1_1_10 ..) dX1_seek_10 (fun H locs Y => ?_)
  obtain ⟨u1_2, eu1_2, Y, hv⟩ := z_nm (kf := fun z => (k1 a cI cZ z)) Y hv
  refine lv_aload_n hx hb dX1_seek_13 rfl (lv_at hl 0 rfl) ?_
  refine lv_iload_n hx hb dX1_seek_14 rfl (lv_at hl 2 rfl) ?_
  refine lv_bipush (v := 10) hx hb dX1_seek_15 (by decide) ?_
  refine lv_imul hx hb dX1_seek_17 ?_
  refine z_putI C Y (Cn := RX1) (T := TX1) (N := 16) in_X1_seek_1 rfl tyX1 tyX1_ok nmX1 (ge1_1 ..) 11 (by decide) fl_X1_seek_52 rfl (by decide +kernel) (Nat.le_of_ble_eq_true rfl) (si1_1_11 ..) dX1_seek_18 (fun H locs Y => ?_)
  obtain ⟨u1_3, eu1_3, Y, hv⟩ := z_nm (kf := fun z => (k1 a cI cZ z)) Y hv
  refine lv_aload_n hx hb dX1_seek_21 rfl (lv_at hl 0 rfl) ?_
  refine z_callVv C Y (c_X1_setBounds l hv) (zFr.self _ _) (cwV 0 hts gX1_seek_X1_setBounds rfl rfl rfl (by decide +kernel) ⟨(Nat.le_of_ble_eq_true rfl), (Nat.le_of_ble_eq_true rfl)⟩) (ge1_1 ..) rfl rfl rfl hl.1 rfl (Nat.le_of_ble_eq_true rfl) dX1_seek_22 ⟨Nat.zero_le _, Nat.zero_le _⟩ (fun u1_4 H locs Y hv => ?_)
  refine lv_aload_n hx hb dX1_seek_25 rfl (lv_at hl 0 rfl) ?_
  refine lv_iconst (v := 0) hx hb dX1_seek_26 (by decide) ?_
  refine lv_bipush (v := 10) hx hb dX1_seek_27 (by decide) ?_
  refine lv_iconst (v := 0) hx hb dX1_seek_29 (by decide) ?_
  refine lv_iconst (v := 0) hx hb dX1_seek_30 (by decide) ?_
  refine lv_iconst (v := 0) hx hb dX1_seek_31 (by decide) ?_
  refine z_callVv C Y (c_X1_choose l hv) (zFr.self _ _) (cwV 5 hts gX1_seek_X1_choose rfl rfl rfl (by decide +kernel) ⟨(Nat.le_of_ble_eq_true rfl), (Nat.le_of_ble_eq_true rfl)⟩) (ge1_1 ..) rfl rfl rfl hl.1 rfl (Nat.le_of_ble_eq_true rfl) dX1_seek_32 ⟨Nat.zero_le _, Nat.zero_le _⟩ (fun u1_6 H locs Y hv => ?_)
  exact hret Y hv dX1_seek_35

end
abbrev TX1_seek := wp_X1_seek_0
set_option maxHeartbeats 4000000 in
set_option maxRecDepth 100000 in
theorem c_X1_seek (l : Launch) {D : va_G} {cI cZ cJ : ClassId} {a : Nat → Nat → Nat} {Q1 : zSt → Prop} {p1 : Int32} {p2 : Int32} {u1 : zSt} (hv : wp_X1_seek_0 Q1 p1 p2 u1) : zMV l yX1_seek wsX1_seek ({ frames := 19, cells := 0, slots := 0, locals := 565 } : Room) D cI cZ cJ [.ref (a 1 99), .int p1, .int p2] (k1 a cI cZ u1) (fun u : zSt => k1 a cI cZ u) Q1 :=
  z_ofV (by decide) rfl rfl (Nat.le_of_ble_eq_true rfl) (fun C Y hl hret => bk_X1_seek_0 C Y hl hret hv)


