theorem in_X4_add_4 : ∀ w ∈ wsX40, w ∈ wsX4_add := by first | exact fun w h => List.mem_cons_of_mem _ (List.mem_append_right _ h) | exact fun w h => List.mem_cons_of_mem _ (List.mem_append_left _ (List.mem_append_right _ h)) | decide +kernel
theorem fl_X4_add_19 : Cond.fieldLink RX4 19 (TX4 3).1 (TX4 3).2.1 (TX4 3).2.2.1 ∈ wsX4_add := by decide +kernel
theorem fl_X4_add_31 : Cond.fieldLink RX4 31 (TX4 1).1 (TX4 1).2.1 (TX4 1).2.2.1 ∈ wsX4_add := by decide +kernel
section
variable {p : Program} {l : Launch} {e : Env} {s : State} {m : MethodId} {args : Array Value} {below : List Frame} {meth : Method} {c : Code} {H : Heap} {locs : List Loc} {Q : State → Prop} {D : va_G} {cI cZ cJ : ClassId} {A : Nat → Prop} {ls : Array Slot}
def wp_X4_add_0 (Q1 : Int32 → zSt → Prop) (p1 : Int32) (u4 : zSt) : Prop :=
  vp_in p1 6 ∧ (vp_in p1 6 ∧ (∀ u4_1 : zSt, u4_1 = zA u4 3 (upd (u4.2 3) p1.toNatClampNeg ((u4.2 3 p1.toNatClampNeg) + 1)) → ∀ u4_2 : zSt, u4_2 = zI u4_1 1 ((u4_1.1 1) + 1) → Q1 (u4_2.1 1) u4_2))

set_option maxHeartbeats 4000000 in
set_option maxRecDepth 100000 in
theorem bk_X4_add_0 {a : Nat → Nat → Nat} {Q1 : Int32 → zSt → Prop} {p1 : Int32} {u4 : zSt} (C : zCx p s m args c cX4_add 2 RX4 wsX4_add D cI cZ cJ A) (Y : zDy D A s.heap (k4 a cI cZ u4) H locs) (hl : lv_has ls 2 [(0, .ref (a 4 99)), (1, .int p1)]) (hret : ∀ {pc : Nat} {H : Heap} {locs : List Loc} {ls : Array Slot} {r : Int32} {u : zSt}, zDy D A s.heap ((fun u : zSt => k4 a cI cZ u) u) H locs → Q1 r u → decode cX4_add pc = .ok (.ireturn, 1) → W p l e ({ frames := 0, cells := 0, slots := 0, locals := 0 } : Room) s m args below meth c H locs 0 0 Q (F0 m pc ls [.int r])) (hv : wp_X4_add_0 Q1 p1 u4) : W p l e ({ frames := 0, cells := 0, slots := 0, locals := 0 } : Room) s m args below meth c H locs 0 0 Q (F0 m 0 ls []) := by
  unfold wp_X4_add_0 at hv
  obtain ⟨hx, hb, hml, hown, hts, hK, hA⟩ := id C
  refine lv_aload_n hx hb dX4_add_0 rfl (lv_at hl 0 rfl) ?_
  refine z_get C Y (Cn := RX4) (T := TX4) (N := 7) in_X4_add_4 rfl (ge4_4 ..) 3 (by decide) fl_X4_add_19 rfl dX4_add_1 ?_
  refine lv_iload_n hx hb dX4_add_4 rfl (lv_at hl 1 rfl) ?_
  refine lv_dup2_11 hx hb dX4_add_5 rfl rfl ?_
  obtain ⟨hi, hv⟩ := hv
  refine z_ldI C Y (pa4_4_3 ..) hi dX4_add_6 ?_
  refine lv_iconst (v := 1) hx hb dX4_add_7 (by decide) ?_
  refine lv_iadd hx hb dX4_add_8 ?_
  obtain ⟨hi, hv⟩ := hv
  refine z_stI C Y (pa4_4_3 ..) (sa4_4_3 ..) hi dX4_add_9 (fun H locs Y => ?_)
  obtain ⟨u4_1, eu4_1, Y, hv⟩ := z_nm (kf := fun z => (k4 a cI cZ z)) Y hv
  refine lv_aload_n hx hb dX4_add_10 rfl (lv_at hl 0 rfl) ?_
  refine lv_dup hx hb dX4_add_11 rfl ?_
  refine z_get C Y (Cn := RX4) (T := TX4) (N := 7) in_X4_add_4 rfl (ge4_4 ..) 1 (by decide) fl_X4_add_31 rfl dX4_add_12 ?_
  refine lv_iconst (v := 1) hx hb dX4_add_15 (by decide) ?_
  refine lv_iadd hx hb dX4_add_16 ?_
  refine z_putI C Y (Cn := RX4) (T := TX4) (N := 7) in_X4_add_4 rfl tyX4 tyX4_ok nmX4 (ge4_4 ..) 1 (by decide) fl_X4_add_31 rfl (by decide +kernel) (Nat.le_of_ble_eq_true rfl) (si4_4_1 ..) dX4_add_17 (fun H locs Y => ?_)
  obtain ⟨u4_2, eu4_2, Y, hv⟩ := z_nm (kf := fun z => (k4 a cI cZ z)) Y hv
  refine lv_aload_n hx hb dX4_add_20 rfl (lv_at hl 0 rfl) ?_
  refine z_get C Y (Cn := RX4) (T := TX4) (N := 7) in_X4_add_4 rfl (ge4_4 ..) 1 (by decide) fl_X4_add_31 rfl dX4_add_21 ?_
  exact hret Y hv dX4_add_24

end
abbrev TX4_add := wp_X4_add_0
set_option maxHeartbeats 4000000 in
set_option maxRecDepth 100000 in
theorem c_X4_add (l : Launch) {D : va_G} {cI cZ cJ : ClassId} {a : Nat → Nat → Nat} {Q1 : Int32 → zSt → Prop} {p1 : Int32} {u4 : zSt} (hv : wp_X4_add_0 Q1 p1 u4) : zMI l yX4_add wsX4_add ({ frames := 0, cells := 0, slots := 0, locals := 0 } : Room) D cI cZ cJ [.ref (a 4 99), .int p1] (k4 a cI cZ u4) (fun u : zSt => k4 a cI cZ u) Q1 :=
  z_ofI (by decide) rfl rfl (Nat.le_of_ble_eq_true rfl) (fun C Y hl hret => bk_X4_add_0 C Y hl hret hv)


theorem in_X4_setWeights_4 : ∀ w ∈ wsX40, w ∈ wsX4_setWeights := by first | exact fun w h => List.mem_cons_of_mem _ (List.mem_append_right _ h) | exact fun w h => List.mem_cons_of_mem _ (List.mem_append_left _ (List.mem_append_right _ h)) | decide +kernel
theorem fl_X4_setWeights_19 : Cond.fieldLink RX4 19 (TX4 3).1 (TX4 3).2.1 (TX4 3).2.2.1 ∈ wsX4_setWeights := by decide +kernel
theorem fl_X4_setWeights_22 : Cond.fieldLink RX4 22 (TX4 4).1 (TX4 4).2.1 (TX4 4).2.2.1 ∈ wsX4_setWeights := by decide +kernel
theorem mm_X4_setWeights_min : z_mw RX4 57 Lib.Math.min.name Lib.Math.min.code wsX4_setWeights := ⟨by decide +kernel, by decide +kernel, by decide +kernel, by decide +kernel⟩
section
variable {p : Program} {l : Launch} {e : Env} {s : State} {m : MethodId} {args : Array Value} {below : List Frame} {meth : Method} {c : Code} {H : Heap} {locs : List Loc} {Q : State → Prop} {D : va_G} {cI cZ cJ : ClassId} {A : Nat → Prop} {ls : Array Slot}
def wp_X4_setWeights_0 (J4 : Int32 → Int32 → zSt → Prop) (Q1 : Int32 → zSt → Prop) (u4 : zSt) : Prop :=
  ∀ x1_1 : Int32, x1_1 = 1 → ∀ x2_2 : Int32, x2_2 = 0 → J4 x1_1 x2_2 u4

set_option maxHeartbeats 4000000 in
set_option maxRecDepth 100000 in
theorem bk_X4_setWeights_0 {a : Nat → Nat → Nat} {J4 : Int32 → Int32 → zSt → Prop} {Q1 : Int32 → zSt → Prop} {u4 : zSt} (C : zCx p s m args c cX4_setWeights 3 RX4 wsX4_setWeights D cI cZ cJ A) (Y : zDy D A s.heap (k4 a cI cZ u4) H locs) (hl : lv_has ls 3 [(0, .ref (a 4 99))]) (hret : ∀ {pc : Nat} {H : Heap} {locs : List Loc} {ls : Array Slot} {r : Int32} {u : zSt}, zDy D A s.heap ((fun u : zSt => k4 a cI cZ u) u) H locs → Q1 r u → decode cX4_setWeights pc = .ok (.ireturn, 1) → W p l e ({ frames := 1, cells := 0, slots := 0, locals := 24 } : Room) s m args below meth c H locs 0 0 Q (F0 m pc ls [.int r])) (hJ4 : ∀ (x1 : Int32) (x2 : Int32) (u4 : zSt) (H : Heap) (locs : List Loc) (ls : Array Slot), J4 x1 x2 u4 → zDy D A s.heap (k4 a cI cZ u4) H locs → lv_has ls 3 [(0, .ref (a 4 99)), (1, .int x1), (2, .int x2)] → W p l e ({ frames := 1, cells := 0, slots := 0, locals := 24 } : Room) s m args below meth c H locs 0 0 Q (F0 m 4 ls [])) (hv : wp_X4_setWeights_0 J4 Q1  u4) : W p l e ({ frames := 1, cells := 0, slots := 0, locals := 24 } : Room) s m args below meth c H locs 0 0 Q (F0 m 0 ls []) := by
  unfold wp_X4_setWeights_0 at hv
  obtain ⟨hx, hb, hml, hown, hts, hK, hA⟩ := id C
  refine lv_iconst (v := 1) hx hb dX4_setWeights_0 (by decide) ?_
  refine z_topi hv (fun x1_1 ex1_1 hv => ?_)
  refine lv_istore_n (lv' := [(1, .int x1_1), (0, .ref (a 4 99))]) hx hb dX4_setWeights_1 rfl hl (by decide) rfl (fun ls hl => ?_)
  refine lv_iconst (v := 0) hx hb dX4_setWeights_2 (by decide) ?_
  refine z_topi hv (fun x2_2 ex2_2 hv => ?_)
  refine lv_istore_n (lv' := [(2, .int x2_2), (1, .int x1_1), (0, .ref (a 4 99))]) hx hb dX4_setWeights_3 rfl hl (by decide) rfl (fun ls hl => ?_)
  exact hJ4 _ _ _ _ _ _ hv Y (lv_sub hl [2, 1, 0] rfl)

def wp_X4_setWeights_4 (J4 : Int32 → Int32 → zSt → Prop) (Q1 : Int32 → zSt → Prop) (x1 : Int32) (x2 : Int32) (u4 : zSt) : Prop :=
  ((6 : Int32) ≤ x2 → Q1 (if (324 : Int32) < x1 then 324 else x1) u4) ∧ (¬ (6 : Int32) ≤ x2 → vp_in x2 6 ∧ (∀ u4_1 : zSt, u4_1 = zA u4 4 (upd (u4.2 4) x2.toNatClampNeg x1) → vp_in x2 6 ∧ (∀ x1_2 : Int32, x1_2 = (x1 * ((u4_1.2 3 x2.toNatClampNeg) + 1)) → ∀ x2_3 : Int32, x2_3 = x2 + 1 → J4 x1_2 x2_3 u4_1)))

set_option maxHeartbeats 4000000 in
set_option maxRecDepth 100000 in
theorem bk_X4_setWeights_4 {a : Nat → Nat → Nat} {J4 : Int32 → Int32 → zSt → Prop} {Q1 : Int32 → zSt → Prop} {x1 : Int32} {x2 : Int32} {u4 : zSt} (C : zCx p s m args c cX4_setWeights 3 RX4 wsX4_setWeights D cI cZ cJ A) (Y : zDy D A s.heap (k4 a cI cZ u4) H locs) (hl : lv_has ls 3 [(0, .ref (a 4 99)), (1, .int x1), (2, .int x2)]) (hret : ∀ {pc : Nat} {H : Heap} {locs : List Loc} {ls : Array Slot} {r : Int32} {u : zSt}, zDy D A s.heap ((fun u : zSt => k4 a cI cZ u) u) H locs → Q1 r u → decode cX4_setWeights pc = .ok (.ireturn, 1) → W p l e ({ frames := 1, cells := 0, slots := 0, locals := 24 } : Room) s m args below meth c H locs 0 0 Q (F0 m pc ls [.int r])) (hJ4 : ∀ (x1 : Int32) (x2 : Int32) (u4 : zSt) (H : Heap) (locs : List Loc) (ls : Array Slot), J4 x1 x2 u4 → zDy D A s.heap (k4 a cI cZ u4) H locs → lv_has ls 3 [(0, .ref (a 4 99)), (1, .int x1), (2, .int x2)] → W p l e ({ frames := 1, cells := 0, slots := 0, locals := 24 } : Room) s m args below meth c H locs 0 0 Q (F0 m 4 ls [])) (hv : wp_X4_setWeights_4 J4 Q1 x1 x2 u4) : W p l e ({ frames := 1, cells := 0, slots := 0, locals := 24 } : Room) s m args below meth c H locs 0 0 Q (F0 m 4 ls []) := by
  unfold wp_X4_setWeights_4 at hv
  obtain ⟨hx, hb, hml, hown, hts, hK, hA⟩ := id C
  refine lv_iload_n hx hb dX4_setWeights_4 rfl (lv_at hl 2 rfl) ?_
  refine lv_bipush (v := 6) hx hb dX4_setWeights_5 (by decide) ?_
  refine lv_icmp_ge (tgt := 34) hx hb dX4_setWeights_7 (by decide) (fun hc => ?_) (fun hc => ?_)
  · have hv := hv.1 hc
    refine lv_iload_n hx hb dX4_setWeights_34 rfl (lv_at hl 1 rfl) ?_
    refine lv_sipush (v := 324) hx hb dX4_setWeights_35 (by decide) ?_
    refine z_mmin C hl.1 mm_X4_setWeights_min (Nat.le_of_ble_eq_true rfl) (Nat.le_of_ble_eq_true rfl) (Nat.zero_le _) (Nat.zero_le _) dX4_setWeights_38 ?_
    exact hret Y hv dX4_setWeights_41
  · have hv := hv.2 hc
    refine lv_aload_n hx hb dX4_setWeights_10 rfl (lv_at hl 0 rfl) ?_
    refine z_get C Y (Cn := RX4) (T := TX4) (N := 7) in_X4_setWeights_4 rfl (ge4_4 ..) 4 (by decide) fl_X4_setWeights_22 rfl dX4_setWeights_11 ?_
    refine lv_iload_n hx hb dX4_setWeights_14 rfl (lv_at hl 2 rfl) ?_
    refine lv_iload_n hx hb dX4_setWeights_15 rfl (lv_at hl 1 rfl) ?_
    obtain ⟨hi, hv⟩ := hv
    refine z_stI C Y (pa4_4_4 ..) (sa4_4_4 ..) hi dX4_setWeights_16 (fun H locs Y => ?_)
    obtain ⟨u4_1, eu4_1, Y, hv⟩ := z_nm (kf := fun z => (k4 a cI cZ z)) Y hv
    refine lv_iload_n hx hb dX4_setWeights_17 rfl (lv_at hl 1 rfl) ?_
    refine lv_aload_n hx hb dX4_setWeights_18 rfl (lv_at hl 0 rfl) ?_
    refine z_get C Y (Cn := RX4) (T := TX4) (N := 7) in_X4_setWeights_4 rfl (ge4_4 ..) 3 (by decide) fl_X4_setWeights_19 rfl dX4_setWeights_19 ?_
    refine lv_iload_n hx hb dX4_setWeights_22 rfl (lv_at hl 2 rfl) ?_
    obtain ⟨hi, hv⟩ := hv
    refine z_ldI C Y (pa4_4_3 ..) hi dX4_setWeights_23 ?_
    refine lv_iconst (v := 1) hx hb dX4_setWeights_24 (by decide) ?_
    refine lv_iadd hx hb dX4_setWeights_25 ?_
    refine lv_imul hx hb dX4_setWeights_26 ?_
    refine z_topi hv (fun x1_2 ex1_2 hv => ?_)
    refine lv_istore_n (lv' := [(1, .int x1_2), (0, .ref (a 4 99)), (2, .int x2)]) hx hb dX4_setWeights_27 rfl hl (by decide) rfl (fun ls hl => ?_)
    obtain ⟨x2_3, ex2_3, hv⟩ := z_nv hv
    refine lv_iinc (v := x2_3) (lv' := [(2, .int x2_3), (1, .int x1_2), (0, .ref (a 4 99))]) hx hb dX4_setWeights_28 hl (k := 2) rfl (by rw [ex2_3]; rfl) (by decide) rfl (fun ls hl => ?_)
    refine lv_goto (tgt := 4) hx hb dX4_setWeights_31 (by decide) ?_
    exact hJ4 _ _ _ _ _ _ hv Y (lv_sub hl [2, 1, 0] rfl)

end
set_option maxHeartbeats 4000000 in
set_option maxRecDepth 100000 in
theorem k_X4_setWeights (l : Launch) {D : va_G} {cI cZ cJ : ClassId} {a : Nat → Nat → Nat} {Q1 : Int32 → zSt → Prop} {u4 : zSt} (I4 : Nat → Int32 → Int32 → zSt → Prop)
    (hv : wp_X4_setWeights_0 (fun x1 x2 u4 => ∃ n : Nat, I4 n x1 x2 u4) Q1  u4)
    (hI4 : ∀ (n : Nat) (x1 : Int32) (x2 : Int32) (u4 : zSt), I4 n x1 x2 u4 → wp_X4_setWeights_4 (fun x1 x2 u4 => ∃ k : Nat, k < n ∧ I4 k x1 x2 u4) Q1 x1 x2 u4) : zMI l yX4_setWeights wsX4_setWeights ({ frames := 1, cells := 0, slots := 0, locals := 24 } : Room) D cI cZ cJ [.ref (a 4 99)] (k4 a cI cZ u4) (fun u : zSt => k4 a cI cZ u) Q1 := by
  refine z_ofI (by decide) rfl rfl (Nat.le_of_ble_eq_true rfl) (@fun p e s m args below meth c A Q ls C Y hl hret => ?_)
  have key : ∀ n : Nat, (∀ (x1 : Int32) (x2 : Int32) (u4 : zSt) (H : Heap) (locs : List Loc) (ls : Array Slot), I4 n x1 x2 u4 → zDy D A s.heap (k4 a cI cZ u4) H locs → lv_has ls 3 [(0, .ref (a 4 99)), (1, .int x1), (2, .int x2)] → W p l e ({ frames := 1, cells := 0, slots := 0, locals := 24 } : Room) s m args below meth c H locs 0 0 Q (F0 m 4 ls [])) := by
    intro n
    induction n using Nat.strongRecOn with
    | _ n ih =>
      exact fun x1 x2 u4 H locs ls hi Y hl => bk_X4_setWeights_4 C Y hl hret (fun y0 y1 y2 H locs ls hi Y hl => by obtain ⟨k, hk, hi⟩ := hi; exact (ih k hk) y0 y1 y2 H locs ls hi Y hl) (hI4 n x1 x2 u4 hi)
  exact bk_X4_setWeights_0 C Y hl hret (fun y0 y1 y2 H locs ls hi Y hl => by obtain ⟨n, hi⟩ := hi; exact (key n) y0 y1 y2 H locs ls hi Y hl) hv
def TX4_setWeights (Q1 : Int32 → zSt → Prop) (u4 : zSt) : Prop :=
  ∃ I4 : Nat → Int32 → Int32 → zSt → Prop, (wp_X4_setWeights_0 (fun x1 x2 u4 => ∃ n : Nat, I4 n x1 x2 u4) Q1  u4) ∧ (∀ (n : Nat) (x1 : Int32) (x2 : Int32) (u4 : zSt), I4 n x1 x2 u4 → wp_X4_setWeights_4 (fun x1 x2 u4 => ∃ k : Nat, k < n ∧ I4 k x1 x2 u4) Q1 x1 x2 u4)
set_option maxHeartbeats 4000000 in
set_option maxRecDepth 100000 in
theorem c_X4_setWeights (l : Launch) {D : va_G} {cI cZ cJ : ClassId} {a : Nat → Nat → Nat} {Q1 : Int32 → zSt → Prop} {u4 : zSt} (hv : TX4_setWeights Q1  u4) : zMI l yX4_setWeights wsX4_setWeights ({ frames := 1, cells := 0, slots := 0, locals := 24 } : Room) D cI cZ cJ [.ref (a 4 99)] (k4 a cI cZ u4) (fun u : zSt => k4 a cI cZ u) Q1 := by
  obtain ⟨I4, hv, hI4⟩ := hv
  exact k_X4_setWeights l I4 hv hI4


theorem in_X4_setLeft_4 : ∀ w ∈ wsX40, w ∈ wsX4_setLeft := by first | exact fun w h => List.mem_cons_of_mem _ (List.mem_append_right _ h) | exact fun w h => List.mem_cons_of_mem _ (List.mem_append_left _ (List.mem_append_right _ h)) | decide +kernel
theorem fl_X4_setLeft_19 : Cond.fieldLink RX4 19 (TX4 3).1 (TX4 3).2.1 (TX4 3).2.2.1 ∈ wsX4_setLeft := by decide +kernel
theorem fl_X4_setLeft_22 : Cond.fieldLink RX4 22 (TX4 4).1 (TX4 4).2.1 (TX4 4).2.2.1 ∈ wsX4_setLeft := by decide +kernel
theorem fl_X4_setLeft_25 : Cond.fieldLink RX4 25 (TX4 5).1 (TX4 5).2.1 (TX4 5).2.2.1 ∈ wsX4_setLeft := by decide +kernel
section
variable {p : Program} {l : Launch} {e : Env} {s : State} {m : MethodId} {args : Array Value} {below : List Frame} {meth : Method} {c : Code} {H : Heap} {locs : List Loc} {Q : State → Prop} {D : va_G} {cI cZ cJ : ClassId} {A : Nat → Prop} {ls : Array Slot}
def wp_X4_setLeft_0 (J4 : Int32 → Int32 → zSt → Prop) (J11 : Int32 → Int32 → Int32 → zSt → Prop) (Q1 : zSt → Prop) (p1 : Int32) (u4 : zSt) : Prop :=
  ∀ x2_1 : Int32, x2_1 = p1 → ∀ x3_2 : Int32, x3_2 = 5 → J4 x2_1 x3_2 u4

set_option maxHeartbeats 4000000 in
set_option maxRecDepth 100000 in
theorem bk_X4_setLeft_0 {a : Nat → Nat → Nat} {J4 : Int32 → Int32 → zSt → Prop} {J11 : Int32 → Int32 → Int32 → zSt → Prop} {Q1 : zSt → Prop} {p1 : Int32} {u4 : zSt} (C : zCx p s m args c cX4_setLeft 5 RX4 wsX4_setLeft D cI cZ cJ A) (Y : zDy D A s.heap (k4 a cI cZ u4) H locs) (hl : lv_has ls 5 [(0, .ref (a 4 99)), (1, .int p1)]) (hret : ∀ {pc : Nat} {H : Heap} {locs : List Loc} {ls : Array Slot} {u : zSt}, zDy D A s.heap ((fun u : zSt => k4 a cI cZ u) u) H locs → Q1 u → decode cX4_setLeft pc = .ok (.return_, 1) → W p l e ({ frames := 0, cells := 0, slots := 0, locals := 0 } : Room) s m args below meth c H locs 0 0 Q (F0 m pc ls [])) (hJ4 : ∀ (x2 : Int32) (x3 : Int32) (u4 : zSt) (H : Heap) (locs : List Loc) (ls : Array Slot), J4 x2 x3 u4 → zDy D A s.heap (k4 a cI cZ u4) H locs → lv_has ls 5 [(0, .ref (a 4 99)), (2, .int x2), (3, .int x3)] → W p l e ({ frames := 0, cells := 0, slots := 0, locals := 0 } : Room) s m args below meth c H locs 0 0 Q (F0 m 4 ls [])) (hJ11 : ∀ (x2 : Int32) (x3 : Int32) (x4 : Int32) (u4 : zSt) (H : Heap) (locs : List Loc) (ls : Array Slot), J11 x2 x3 x4 u4 → zDy D A s.heap (k4 a cI cZ u4) H locs → lv_has ls 5 [(0, .ref (a 4 99)), (2, .int x2), (3, .int x3), (4, .int x4)] → W p l e ({ frames := 0, cells := 0, slots := 0, locals := 0 } : Room) s m args below meth c H locs 0 0 Q (F0 m 11 ls [])) (hv : wp_X4_setLeft_0 J4 J11 Q1 p1 u4) : W p l e ({ frames := 0, cells := 0, slots := 0, locals := 0 } : Room) s m args below meth c H locs 0 0 Q (F0 m 0 ls []) := by
  unfold wp_X4_setLeft_0 at hv
  obtain ⟨hx, hb, hml, hown, hts, hK, hA⟩ := id C
  refine lv_iload_n hx hb dX4_setLeft_0 rfl (lv_at hl 1 rfl) ?_
  refine z_topi hv (fun x2_1 ex2_1 hv => ?_)
  refine lv_istore_n (lv' := [(2, .int x2_1), (0, .ref (a 4 99)), (1, .int p1)]) hx hb dX4_setLeft_1 rfl hl (by decide) rfl (fun ls hl => ?_)
  refine lv_iconst (v := 5) hx hb dX4_setLeft_2 (by decide) ?_
  refine z_topi hv (fun x3_2 ex3_2 hv => ?_)
  refine lv_istore_n (lv' := [(3, .int x3_2), (2, .int x2_1), (0, .ref (a 4 99)), (1, .int p1)]) hx hb dX4_setLeft_3 rfl hl (by decide) rfl (fun ls hl => ?_)
  exact hJ4 _ _ _ _ _ _ hv Y (lv_sub hl [2, 1, 0] rfl)

def wp_X4_setLeft_4 (J4 : Int32 → Int32 → zSt → Prop) (J11 : Int32 → Int32 → Int32 → zSt → Prop) (Q1 : zSt → Prop) (x2 : Int32) (x3 : Int32) (u4 : zSt) : Prop :=
  (x3 < (0 : Int32) → Q1 u4) ∧ (¬ x3 < (0 : Int32) → ∀ x4_1 : Int32, x4_1 = 0 → J11 x2 x3 x4_1 u4)

set_option maxHeartbeats 4000000 in
set_option maxRecDepth 100000 in
theorem bk_X4_setLeft_4 {a : Nat → Nat → Nat} {J4 : Int32 → Int32 → zSt → Prop} {J11 : Int32 → Int32 → Int32 → zSt → Prop} {Q1 : zSt → Prop} {x2 : Int32} {x3 : Int32} {u4 : zSt} (C : zCx p s m args c cX4_setLeft 5 RX4 wsX4_setLeft D cI cZ cJ A) (Y : zDy D A s.heap (k4 a cI cZ u4) H locs) (hl : lv_has ls 5 [(0, .ref (a 4 99)), (2, .int x2), (3, .int x3)]) (hret : ∀ {pc : Nat} {H : Heap} {locs : List Loc} {ls : Array Slot} {u : zSt}, zDy D A s.heap ((fun u : zSt => k4 a cI cZ u) u) H locs → Q1 u → decode cX4_setLeft pc = .ok (.return_, 1) → W p l e ({ frames := 0, cells := 0, slots := 0, locals := 0 } : Room) s m args below meth c H locs 0 0 Q (F0 m pc ls [])) (hJ4 : ∀ (x2 : Int32) (x3 : Int32) (u4 : zSt) (H : Heap) (locs : List Loc) (ls : Array Slot), J4 x2 x3 u4 → zDy D A s.heap (k4 a cI cZ u4) H locs → lv_has ls 5 [(0, .ref (a 4 99)), (2, .int x2), (3, .int x3)] → W p l e ({ frames := 0, cells := 0, slots := 0, locals := 0 } : Room) s m args below meth c H locs 0 0 Q (F0 m 4 ls [])) (hJ11 : ∀ (x2 : Int32) (x3 : Int32) (x4 : Int32) (u4 : zSt) (H : Heap) (locs : List Loc) (ls : Array Slot), J11 x2 x3 x4 u4 → zDy D A s.heap (k4 a cI cZ u4) H locs → lv_has ls 5 [(0, .ref (a 4 99)), (2, .int x2), (3, .int x3), (4, .int x4)] → W p l e ({ frames := 0, cells := 0, slots := 0, locals := 0 } : Room) s m args below meth c H locs 0 0 Q (F0 m 11 ls [])) (hv : wp_X4_setLeft_4 J4 J11 Q1 x2 x3 u4) : W p l e ({ frames := 0, cells := 0, slots := 0, locals := 0 } : Room) s m args below meth c H locs 0 0 Q (F0 m 4 ls []) := by
  unfold wp_X4_setLeft_4 at hv
  obtain ⟨hx, hb, hml, hown, hts, hK, hA⟩ := id C
  refine lv_iload_n hx hb dX4_setLeft_4 rfl (lv_at hl 2 rfl) ?_
  refine lv_if_lt (tgt := 61) hx hb dX4_setLeft_5 (by decide) (fun hc => ?_) (fun hc => ?_)
  · have hv := hv.1 hc
    exact hret Y hv dX4_setLeft_61
  · have hv := hv.2 hc
    refine lv_iconst (v := 0) hx hb dX4_setLeft_8 (by decide) ?_
    refine z_topi hv (fun x4_1 ex4_1 hv => ?_)
    refine lv_istore (lv' := [(4, .int x4_1), (0, .ref (a 4 99)), (2, .int x2), (3, .int x3)]) hx hb dX4_setLeft_9 hl (by decide) rfl (fun ls hl => ?_)
    exact hJ11 _ _ _ _ _ _ _ hv Y (lv_sub hl [1, 2, 3, 0] rfl)

def wp_X4_setLeft_47 (J4 : Int32 → Int32 → zSt → Prop) (J11 : Int32 → Int32 → Int32 → zSt → Prop) (Q1 : zSt → Prop) (x2 : Int32) (x3 : Int32) (x4 : Int32) (u4 : zSt) : Prop :=
  vp_in x3 6 ∧ (∀ u4_1 : zSt, u4_1 = zA u4 5 (upd (u4.2 5) x3.toNatClampNeg x4) → ∀ x3_2 : Int32, x3_2 = x3 + (-1) → J4 x2 x3_2 u4_1)

set_option maxHeartbeats 4000000 in
set_option maxRecDepth 100000 in
theorem bk_X4_setLeft_47 {a : Nat → Nat → Nat} {J4 : Int32 → Int32 → zSt → Prop} {J11 : Int32 → Int32 → Int32 → zSt → Prop} {Q1 : zSt → Prop} {x2 : Int32} {x3 : Int32} {x4 : Int32} {u4 : zSt} (C : zCx p s m args c cX4_setLeft 5 RX4 wsX4_setLeft D cI cZ cJ A) (Y : zDy D A s.heap (k4 a cI cZ u4) H locs) (hl : lv_has ls 5 [(0, .ref (a 4 99)), (2, .int x2), (3, .int x3), (4, .int x4)]) (hret : ∀ {pc : Nat} {H : Heap} {locs : List Loc} {ls : Array Slot} {u : zSt}, zDy D A s.heap ((fun u : zSt => k4 a cI cZ u) u) H locs → Q1 u → decode cX4_setLeft pc = .ok (.return_, 1) → W p l e ({ frames := 0, cells := 0, slots := 0, locals := 0 } : Room) s m args below meth c H locs 0 0 Q (F0 m pc ls [])) (hJ4 : ∀ (x2 : Int32) (x3 : Int32) (u4 : zSt) (H : Heap) (locs : List Loc) (ls : Array Slot), J4 x2 x3 u4 → zDy D A s.heap (k4 a cI cZ u4) H locs → lv_has ls 5 [(0, .ref (a 4 99)), (2, .int x2), (3, .int x3)] → W p l e ({ frames := 0, cells := 0, slots := 0, locals := 0 } : Room) s m args below meth c H locs 0 0 Q (F0 m 4 ls [])) (hJ11 : ∀ (x2 : Int32) (x3 : Int32) (x4 : Int32) (u4 : zSt) (H : Heap) (locs : List Loc) (ls : Array Slot), J11 x2 x3 x4 u4 → zDy D A s.heap (k4 a cI cZ u4) H locs → lv_has ls 5 [(0, .ref (a 4 99)), (2, .int x2), (3, .int x3), (4, .int x4)] → W p l e ({ frames := 0, cells := 0, slots := 0, locals := 0 } : Room) s m args below meth c H locs 0 0 Q (F0 m 11 ls [])) (hv : wp_X4_setLeft_47 J4 J11 Q1 x2 x3 x4 u4) : W p l e ({ frames := 0, cells := 0, slots := 0, locals := 0 } : Room) s m args below meth c H locs 0 0 Q (F0 m 47 ls []) := by
  unfold wp_X4_setLeft_47 at hv
  obtain ⟨hx, hb, hml, hown, hts, hK, hA⟩ := id C
  refine lv_aload_n hx hb dX4_setLeft_47 rfl (lv_at hl 0 rfl) ?_
  refine z_get C Y (Cn := RX4) (T := TX4) (N := 7) in_X4_setLeft_4 rfl (ge4_4 ..) 5 (by decide) fl_X4_setLeft_25 rfl dX4_setLeft_48 ?_
  refine lv_iload_n hx hb dX4_setLeft_51 rfl (lv_at hl 2 rfl) ?_
  refine lv_iload hx hb dX4_setLeft_52 (lv_at hl 3 rfl) ?_
  obtain ⟨hi, hv⟩ := hv
  refine z_stI C Y (pa4_4_5 ..) (sa4_4_5 ..) hi dX4_setLeft_54 (fun H locs Y => ?_)
  obtain ⟨u4_1, eu4_1, Y, hv⟩ := z_nm (kf := fun z => (k4 a cI cZ z)) Y hv
  obtain ⟨x3_2, ex3_2, hv⟩ := z_nv hv
  refine lv_iinc (v := x3_2) (lv' := [(3, .int x3_2), (0, .ref (a 4 99)), (2, .int x2), (4, .int x4)]) hx hb dX4_setLeft_55 hl (k := 2) rfl (by rw [ex3_2]; rfl) (by decide) rfl (fun ls hl => ?_)
  refine lv_goto (tgt := 4) hx hb dX4_setLeft_58 (by decide) ?_
  exact hJ4 _ _ _ _ _ _ hv Y (lv_sub hl [1, 2, 0] rfl)

def wp_X4_setLeft_11 (J4 : Int32 → Int32 → zSt → Prop) (J11 : Int32 → Int32 → Int32 → zSt → Prop) (Q1 : zSt → Prop) (x2 : Int32) (x3 : Int32) (x4 : Int32) (u4 : zSt) : Prop :=
  vp_in x3 6 ∧ (((u4.2 3 x3.toNatClampNeg) ≤ x4 → wp_X4_setLeft_47 J4 J11 Q1 x2 x3 x4 u4) ∧ (¬ (u4.2 3 x3.toNatClampNeg) ≤ x4 → vp_in x3 6 ∧ ((x2 < (u4.2 4 x3.toNatClampNeg) → wp_X4_setLeft_47 J4 J11 Q1 x2 x3 x4 u4) ∧ (¬ x2 < (u4.2 4 x3.toNatClampNeg) → vp_in x3 6 ∧ (∀ x2_1 : Int32, x2_1 = (x2 - (u4.2 4 x3.toNatClampNeg)) → ∀ x4_2 : Int32, x4_2 = x4 + 1 → J11 x2_1 x3 x4_2 u4)))))

set_option maxHeartbeats 4000000 in
set_option maxRecDepth 100000 in
theorem bk_X4_setLeft_11 {a : Nat → Nat → Nat} {J4 : Int32 → Int32 → zSt → Prop} {J11 : Int32 → Int32 → Int32 → zSt → Prop} {Q1 : zSt → Prop} {x2 : Int32} {x3 : Int32} {x4 : Int32} {u4 : zSt} (C : zCx p s m args c cX4_setLeft 5 RX4 wsX4_setLeft D cI cZ cJ A) (Y : zDy D A s.heap (k4 a cI cZ u4) H locs) (hl : lv_has ls 5 [(0, .ref (a 4 99)), (2, .int x2), (3, .int x3), (4, .int x4)]) (hret : ∀ {pc : Nat} {H : Heap} {locs : List Loc} {ls : Array Slot} {u : zSt}, zDy D A s.heap ((fun u : zSt => k4 a cI cZ u) u) H locs → Q1 u → decode cX4_setLeft pc = .ok (.return_, 1) → W p l e ({ frames := 0, cells := 0, slots := 0, locals := 0 } : Room) s m args below meth c H locs 0 0 Q (F0 m pc ls [])) (hJ4 : ∀ (x2 : Int32) (x3 : Int32) (u4 : zSt) (H : Heap) (locs : List Loc) (ls : Array Slot), J4 x2 x3 u4 → zDy D A s.heap (k4 a cI cZ u4) H locs → lv_has ls 5 [(0, .ref (a 4 99)), (2, .int x2), (3, .int x3)] → W p l e ({ frames := 0, cells := 0, slots := 0, locals := 0 } : Room) s m args below meth c H locs 0 0 Q (F0 m 4 ls [])) (hJ11 : ∀ (x2 : Int32) (x3 : Int32) (x4 : Int32) (u4 : zSt) (H : Heap) (locs : List Loc) (ls : Array Slot), J11 x2 x3 x4 u4 → zDy D A s.heap (k4 a cI cZ u4) H locs → lv_has ls 5 [(0, .ref (a 4 99)), (2, .int x2), (3, .int x3), (4, .int x4)] → W p l e ({ frames := 0, cells := 0, slots := 0, locals := 0 } : Room) s m args below meth c H locs 0 0 Q (F0 m 11 ls [])) (hv : wp_X4_setLeft_11 J4 J11 Q1 x2 x3 x4 u4) : W p l e ({ frames := 0, cells := 0, slots := 0, locals := 0 } : Room) s m args below meth c H locs 0 0 Q (F0 m 11 ls []) := by
  unfold wp_X4_setLeft_11 at hv
  obtain ⟨hx, hb, hml, hown, hts, hK, hA⟩ := id C
  refine lv_iload hx hb dX4_setLeft_11 (lv_at hl 3 rfl) ?_
  refine lv_aload_n hx hb dX4_setLeft_13 rfl (lv_at hl 0 rfl) ?_
  refine z_get C Y (Cn := RX4) (T := TX4) (N := 7) in_X4_setLeft_4 rfl (ge4_4 ..) 3 (by decide) fl_X4_setLeft_19 rfl dX4_setLeft_14 ?_
  refine lv_iload_n hx hb dX4_setLeft_17 rfl (lv_at hl 2 rfl) ?_
  obtain ⟨hi, hv⟩ := hv
  refine z_ldI C Y (pa4_4_3 ..) hi dX4_setLeft_18 ?_
  refine lv_icmp_ge (tgt := 47) hx hb dX4_setLeft_19 (by decide) (fun hc => ?_) (fun hc => ?_)
  · have hv := hv.1 hc
    exact bk_X4_setLeft_47 C Y (lv_sub hl [0, 1, 2, 3] rfl) hret hJ4 hJ11 hv
  · have hv := hv.2 hc
    refine lv_iload_n hx hb dX4_setLeft_22 rfl (lv_at hl 1 rfl) ?_
    refine lv_aload_n hx hb dX4_setLeft_23 rfl (lv_at hl 0 rfl) ?_
    refine z_get C Y (Cn := RX4) (T := TX4) (N := 7) in_X4_setLeft_4 rfl (ge4_4 ..) 4 (by decide) fl_X4_setLeft_22 rfl dX4_setLeft_24 ?_
    refine lv_iload_n hx hb dX4_setLeft_27 rfl (lv_at hl 2 rfl) ?_
    obtain ⟨hi, hv⟩ := hv
    refine z_ldI C Y (pa4_4_4 ..) hi dX4_setLeft_28 ?_
    refine lv_icmp_lt (tgt := 47) hx hb dX4_setLeft_29 (by decide) (fun hc => ?_) (fun hc => ?_)
    · have hv := hv.1 hc
      exact bk_X4_setLeft_47 C Y (lv_sub hl [0, 1, 2, 3] rfl) hret hJ4 hJ11 hv
    · have hv := hv.2 hc
      refine lv_iload_n hx hb dX4_setLeft_32 rfl (lv_at hl 1 rfl) ?_
      refine lv_aload_n hx hb dX4_setLeft_33 rfl (lv_at hl 0 rfl) ?_
      refine z_get C Y (Cn := RX4) (T := TX4) (N := 7) in_X4_setLeft_4 rfl (ge4_4 ..) 4 (by decide) fl_X4_setLeft_22 rfl dX4_setLeft_34 ?_
      refine lv_iload_n hx hb dX4_setLeft_37 rfl (lv_at hl 2 rfl) ?_
      obtain ⟨hi, hv⟩ := hv
      refine z_ldI C Y (pa4_4_4 ..) hi dX4_setLeft_38 ?_
      refine lv_isub hx hb dX4_setLeft_39 ?_
      refine z_topi hv (fun x2_1 ex2_1 hv => ?_)
      refine lv_istore_n (lv' := [(2, .int x2_1), (0, .ref (a 4 99)), (3, .int x3), (4, .int x4)]) hx hb dX4_setLeft_40 rfl hl (by decide) rfl (fun ls hl => ?_)
      obtain ⟨x4_2, ex4_2, hv⟩ := z_nv hv
      refine lv_iinc (v := x4_2) (lv' := [(4, .int x4_2), (2, .int x2_1), (0, .ref (a 4 99)), (3, .int x3)]) hx hb dX4_setLeft_41 hl (k := 3) rfl (by rw [ex4_2]; rfl) (by decide) rfl (fun ls hl => ?_)
      refine lv_goto (tgt := 11) hx hb dX4_setLeft_44 (by decide) ?_
      exact hJ11 _ _ _ _ _ _ _ hv Y (lv_sub hl [2, 1, 3, 0] rfl)

end
set_option maxHeartbeats 4000000 in
set_option maxRecDepth 100000 in
theorem k_X4_setLeft (l : Launch) {D : va_G} {cI cZ cJ : ClassId} {a : Nat → Nat → Nat} {Q1 : zSt → Prop} {p1 : Int32} {u4 : zSt} (I4 : Nat → Int32 → Int32 → zSt → Prop) (I11 : Nat → Int32 → Int32 → Int32 → zSt → Prop)
    (hv : wp_X4_setLeft_0 (fun x2 x3 u4 => ∃ n : Nat, I4 n x2 x3 u4) (fun x2 x3 x4 u4 => ∃ n : Nat, I11 n x2 x3 x4 u4) Q1 p1 u4)
    (hI4 : ∀ (n : Nat) (x2 : Int32) (x3 : Int32) (u4 : zSt), I4 n x2 x3 u4 → wp_X4_setLeft_4 (fun x2 x3 u4 => ∃ k : Nat, k < n ∧ I4 k x2 x3 u4) (fun x2 x3 x4 u4 => ∃ k : Nat, k < n ∧ I11 k x2 x3 x4 u4) Q1 x2 x3 u4)
    (hI11 : ∀ (n : Nat) (x2 : Int32) (x3 : Int32) (x4 : Int32) (u4 : zSt), I11 n x2 x3 x4 u4 → wp_X4_setLeft_11 (fun x2 x3 u4 => ∃ k : Nat, k < n ∧ I4 k x2 x3 u4) (fun x2 x3 x4 u4 => ∃ k : Nat, k < n ∧ I11 k x2 x3 x4 u4) Q1 x2 x3 x4 u4) : zMV l yX4_setLeft wsX4_setLeft ({ frames := 0, cells := 0, slots := 0, locals := 0 } : Room) D cI cZ cJ [.ref (a 4 99), .int p1] (k4 a cI cZ u4) (fun u : zSt => k4 a cI cZ u) Q1 := by
  refine z_ofV (by decide) rfl rfl (Nat.le_of_ble_eq_true rfl) (@fun p e s m args below meth c A Q ls C Y hl hret => ?_)
  have key : ∀ n : Nat, (∀ (x2 : Int32) (x3 : Int32) (u4 : zSt) (H : Heap) (locs : List Loc) (ls : Array Slot), I4 n x2 x3 u4 → zDy D A s.heap (k4 a cI cZ u4) H locs → lv_has ls 5 [(0, .ref (a 4 99)), (2, .int x2), (3, .int x3)] → W p l e ({ frames := 0, cells := 0, slots := 0, locals := 0 } : Room) s m args below meth c H locs 0 0 Q (F0 m 4 ls [])) ∧ (∀ (x2 : Int32) (x3 : Int32) (x4 : Int32) (u4 : zSt) (H : Heap) (locs : List Loc) (ls : Array Slot), I11 n x2 x3 x4 u4 → zDy D A s.heap (k4 a cI cZ u4) H locs → lv_has ls 5 [(0, .ref (a 4 99)), (2, .int x2), (3, .int x3), (4, .int x4)] → W p l e ({ frames := 0, cells := 0, slots := 0, locals := 0 } : Room) s m args below meth c H locs 0 0 Q (F0 m 11 ls [])) := by
    intro n
    induction n using Nat.strongRecOn with
    | _ n ih =>
      exact ⟨fun x2 x3 u4 H locs ls hi Y hl => bk_X4_setLeft_4 C Y hl hret (fun y0 y1 y2 H locs ls hi Y hl => by obtain ⟨k, hk, hi⟩ := hi; exact (ih k hk).1 y0 y1 y2 H locs ls hi Y hl) (fun y0 y1 y2 y3 H locs ls hi Y hl => by obtain ⟨k, hk, hi⟩ := hi; exact (ih k hk).2 y0 y1 y2 y3 H locs ls hi Y hl) (hI4 n x2 x3 u4 hi), fun x2 x3 x4 u4 H locs ls hi Y hl => bk_X4_setLeft_11 C Y hl hret (fun y0 y1 y2 H locs ls hi Y hl => by obtain ⟨k, hk, hi⟩ := hi; exact (ih k hk).1 y0 y1 y2 H locs ls hi Y hl) (fun y0 y1 y2 y3 H locs ls hi Y hl => by obtain ⟨k, hk, hi⟩ := hi; exact (ih k hk).2 y0 y1 y2 y3 H locs ls hi Y hl) (hI11 n x2 x3 x4 u4 hi)⟩
  exact bk_X4_setLeft_0 C Y hl hret (fun y0 y1 y2 H locs ls hi Y hl => by obtain ⟨n, hi⟩ := hi; exact (key n).1 y0 y1 y2 H locs ls hi Y hl) (fun y0 y1 y2 y3 H locs ls hi Y hl => by obtain ⟨n, hi⟩ := hi; exact (key n).2 y0 y1 y2 y3 H locs ls hi Y hl) hv
def TX4_setLeft (Q1 : zSt → Prop) (p1 : Int32) (u4 : zSt) : Prop :=
  ∃ I4 : Nat → Int32 → Int32 → zSt → Prop, ∃ I11 : Nat → Int32 → Int32 → Int32 → zSt → Prop, (wp_X4_setLeft_0 (fun x2 x3 u4 => ∃ n : Nat, I4 n x2 x3 u4) (fun x2 x3 x4 u4 => ∃ n : Nat, I11 n x2 x3 x4 u4) Q1 p1 u4) ∧ (∀ (n : Nat) (x2 : Int32) (x3 : Int32) (u4 : zSt), I4 n x2 x3 u4 → wp_X4_setLeft_4 (fun x2 x3 u4 => ∃ k : Nat, k < n ∧ I4 k x2 x3 u4) (fun x2 x3 x4 u4 => ∃ k : Nat, k < n ∧ I11 k x2 x3 x4 u4) Q1 x2 x3 u4) ∧ (∀ (n : Nat) (x2 : Int32) (x3 : Int32) (x4 : Int32) (u4 : zSt), I11 n x2 x3 x4 u4 → wp_X4_setLeft_11 (fun x2 x3 u4 => ∃ k : Nat, k < n ∧ I4 k x2 x3 u4) (fun x2 x3 x4 u4 => ∃ k : Nat, k < n ∧ I11 k x2 x3 x4 u4) Q1 x2 x3 x4 u4)
set_option maxHeartbeats 4000000 in
set_option maxRecDepth 100000 in
theorem c_X4_setLeft (l : Launch) {D : va_G} {cI cZ cJ : ClassId} {a : Nat → Nat → Nat} {Q1 : zSt → Prop} {p1 : Int32} {u4 : zSt} (hv : TX4_setLeft Q1 p1 u4) : zMV l yX4_setLeft wsX4_setLeft ({ frames := 0, cells := 0, slots := 0, locals := 0 } : Room) D cI cZ cJ [.ref (a 4 99), .int p1] (k4 a cI cZ u4) (fun u : zSt => k4 a cI cZ u) Q1 := by
  obtain ⟨I4, I11, hv, hI4, hI11⟩ := hv
  exact k_X4_setLeft l I4 I11 hv hI4 hI11


theorem in_X4_costThrough_4 : ∀ w ∈ wsX40, w ∈ wsX4_costThrough := by first | exact fun w h => List.mem_cons_of_mem _ (List.mem_append_right _ h) | exact fun w h => List.mem_cons_of_mem _ (List.mem_append_left _ (List.mem_append_right _ h)) | decide +kernel
theorem fl_X4_costThrough_9 : Cond.fieldLink RX4 9 (TX4 0).1 (TX4 0).2.1 (TX4 0).2.2.1 ∈ wsX4_costThrough := by decide +kernel
theorem fl_X4_costThrough_22 : Cond.fieldLink RX4 22 (TX4 4).1 (TX4 4).2.1 (TX4 4).2.2.1 ∈ wsX4_costThrough := by decide +kernel
theorem fl_X4_costThrough_28 : Cond.fieldLink RX4 28 (TX4 6).1 (TX4 6).2.1 (TX4 6).2.2.1 ∈ wsX4_costThrough := by decide +kernel
section
variable {p : Program} {l : Launch} {e : Env} {s : State} {m : MethodId} {args : Array Value} {below : List Frame} {meth : Method} {c : Code} {H : Heap} {locs : List Loc} {Q : State → Prop} {D : va_G} {cI cZ cJ : ClassId} {A : Nat → Prop} {ls : Array Slot}
def wp_X4_costThrough_0 (Q1 : Int32 → zSt → Prop) (p1 : Int32) (p2 : Int32) (p3 : Int32) (u4 : zSt) : Prop :=
  (p3 = (-1 : Int32) → Q1 0 u4) ∧ (¬ p3 = (-1 : Int32) → vp_in ((p2 * 6) + p3) 42 ∧ (vp_in p3 6 ∧ (vp_in (((p1 - (u4.2 4 p3.toNatClampNeg)) * 6) + p3) 1944 ∧ (Q1 ((u4.2 0 ((p2 * 6) + p3).toNatClampNeg) + (u4.2 6 (((p1 - (u4.2 4 p3.toNatClampNeg)) * 6) + p3).toNatClampNeg)) u4))))

set_option maxHeartbeats 4000000 in
set_option maxRecDepth 100000 in
theorem bk_X4_costThrough_0 {a : Nat → Nat → Nat} {Q1 : Int32 → zSt → Prop} {p1 : Int32} {p2 : Int32} {p3 : Int32} {u4 : zSt} (C : zCx p s m args c cX4_costThrough 4 RX4 wsX4_costThrough D cI cZ cJ A) (Y : zDy D A s.heap (k4 a cI cZ u4) H locs) (hl : lv_has ls 4 [(0, .ref (a 4 99)), (1, .int p1), (2, .int p2), (3, .int p3)]) (hret : ∀ {pc : Nat} {H : Heap} {locs : List Loc} {ls : Array Slot} {r : Int32} {u : zSt}, zDy D A s.heap ((fun u : zSt => k4 a cI cZ u) u) H locs → Q1 r u → decode cX4_costThrough pc = .ok (.ireturn, 1) → W p l e ({ frames := 0, cells := 0, slots := 0, locals := 0 } : Room) s m args below meth c H locs 0 0 Q (F0 m pc ls [.int r])) (hv : wp_X4_costThrough_0 Q1 p1 p2 p3 u4) : W p l e ({ frames := 0, cells := 0, slots := 0, locals := 0 } : Room) s m args below meth c H locs 0 0 Q (F0 m 0 ls []) := by
  unfold wp_X4_costThrough_0 at hv
  obtain ⟨hx, hb, hml, hown, hts, hK, hA⟩ := id C
  refine lv_iload_n hx hb dX4_costThrough_0 rfl (lv_at hl 3 rfl) ?_
  refine lv_iconst (v := (-1)) hx hb dX4_costThrough_1 (by decide) ?_
  refine lv_icmp_ne (tgt := 7) hx hb dX4_costThrough_2 (by decide) (fun hc => ?_) (fun hc => ?_)
  · have hv := hv.2 hc
    refine lv_aload_n hx hb dX4_costThrough_7 rfl (lv_at hl 0 rfl) ?_
    refine z_get C Y (Cn := RX4) (T := TX4) (N := 7) in_X4_costThrough_4 rfl (ge4_4 ..) 0 (by decide) fl_X4_costThrough_9 rfl dX4_costThrough_8 ?_
    refine lv_iload_n hx hb dX4_costThrough_11 rfl (lv_at hl 2 rfl) ?_
    refine lv_bipush (v := 6) hx hb dX4_costThrough_12 (by decide) ?_
    refine lv_imul hx hb dX4_costThrough_14 ?_
    refine lv_iload_n hx hb dX4_costThrough_15 rfl (lv_at hl 3 rfl) ?_
    refine lv_iadd hx hb dX4_costThrough_16 ?_
    obtain ⟨hi, hv⟩ := hv
    refine z_ldI C Y (pa4_4_0 ..) hi dX4_costThrough_17 ?_
    refine lv_aload_n hx hb dX4_costThrough_18 rfl (lv_at hl 0 rfl) ?_
    refine z_get C Y (Cn := RX4) (T := TX4) (N := 7) in_X4_costThrough_4 rfl (ge4_4 ..) 6 (by decide) fl_X4_costThrough_28 rfl dX4_costThrough_19 ?_
    refine lv_iload_n hx hb dX4_costThrough_22 rfl (lv_at hl 1 rfl) ?_
    refine lv_aload_n hx hb dX4_costThrough_23 rfl (lv_at hl 0 rfl) ?_
    refine z_get C Y (Cn := RX4) (T := TX4) (N := 7) in_X4_costThrough_4 rfl (ge4_4 ..) 4 (by decide) fl_X4_costThrough_22 rfl dX4_costThrough_24 ?_
    refine lv_iload_n hx hb dX4_costThrough_27 rfl (lv_at hl 3 rfl) ?_
    obtain ⟨hi, hv⟩ := hv
    refine z_ldI C Y (pa4_4_4 ..) hi dX4_costThrough_28 ?_
    refine lv_isub hx hb dX4_costThrough_29 ?_
    refine lv_bipush (v := 6) hx hb dX4_costThrough_30 (by decide) ?_
    refine lv_imul hx hb dX4_costThrough_32 ?_
    refine lv_iload_n hx hb dX4_costThrough_33 rfl (lv_at hl 3 rfl) ?_
    refine lv_iadd hx hb dX4_costThrough_34 ?_
    obtain ⟨hi, hv⟩ := hv
    refine z_ldI C Y (pa4_4_6 ..) hi dX4_costThrough_35 ?_
    refine lv_iadd hx hb dX4_costThrough_36 ?_
    exact hret Y hv dX4_costThrough_37
  · have hv := hv.1 hc
    refine lv_iconst (v := 0) hx hb dX4_costThrough_5 (by decide) ?_
    exact hret Y hv dX4_costThrough_6

end
abbrev TX4_costThrough := wp_X4_costThrough_0
set_option maxHeartbeats 4000000 in
set_option maxRecDepth 100000 in
theorem c_X4_costThrough (l : Launch) {D : va_G} {cI cZ cJ : ClassId} {a : Nat → Nat → Nat} {Q1 : Int32 → zSt → Prop} {p1 : Int32} {p2 : Int32} {p3 : Int32} {u4 : zSt} (hv : wp_X4_costThrough_0 Q1 p1 p2 p3 u4) : zMI l yX4_costThrough wsX4_costThrough ({ frames := 0, cells := 0, slots := 0, locals := 0 } : Room) D cI cZ cJ [.ref (a 4 99), .int p1, .int p2, .int p3] (k4 a cI cZ u4) (fun u : zSt => k4 a cI cZ u) Q1 :=
  z_ofI (by decide) rfl rfl (Nat.le_of_ble_eq_true rfl) (fun C Y hl hret => bk_X4_costThrough_0 C Y hl hret hv)


theorem in_X4_bestNext_4 : ∀ w ∈ wsX40, w ∈ wsX4_bestNext := by first | exact fun w h => List.mem_cons_of_mem _ (List.mem_append_right _ h) | exact fun w h => List.mem_cons_of_mem _ (List.mem_append_left _ (List.mem_append_right _ h)) | decide +kernel
theorem fl_X4_bestNext_25 : Cond.fieldLink RX4 25 (TX4 5).1 (TX4 5).2.1 (TX4 5).2.2.1 ∈ wsX4_bestNext := by decide +kernel
section
variable {p : Program} {l : Launch} {e : Env} {s : State} {m : MethodId} {args : Array Value} {below : List Frame} {meth : Method} {c : Code} {H : Heap} {locs : List Loc} {Q : State → Prop} {D : va_G} {cI cZ cJ : ClassId} {A : Nat → Prop} {ls : Array Slot}
def wp_X4_bestNext_0 (J8 : Int32 → Int32 → Int32 → Int32 → Int32 → zSt → Prop) (Q1 : Int32 → zSt → Prop) (p1 : Int32) (p2 : Int32) (u4 : zSt) : Prop :=
  ∀ x3_1 : Int32, x3_1 = (-1) → ∀ x4_2 : Int32, x4_2 = 0 → ∀ x5_3 : Int32, x5_3 = 0 → J8 p1 p2 x3_1 x4_2 x5_3 u4

set_option maxHeartbeats 4000000 in
set_option maxRecDepth 100000 in
theorem bk_X4_bestNext_0 {a : Nat → Nat → Nat} {J8 : Int32 → Int32 → Int32 → Int32 → Int32 → zSt → Prop} {Q1 : Int32 → zSt → Prop} {p1 : Int32} {p2 : Int32} {u4 : zSt} (C : zCx p s m args c cX4_bestNext 7 RX4 wsX4_bestNext D cI cZ cJ A) (Y : zDy D A s.heap (k4 a cI cZ u4) H locs) (hl : lv_has ls 7 [(0, .ref (a 4 99)), (1, .int p1), (2, .int p2)]) (hret : ∀ {pc : Nat} {H : Heap} {locs : List Loc} {ls : Array Slot} {r : Int32} {u : zSt}, zDy D A s.heap ((fun u : zSt => k4 a cI cZ u) u) H locs → Q1 r u → decode cX4_bestNext pc = .ok (.ireturn, 1) → W p l e ({ frames := 1, cells := 0, slots := 0, locals := 23 } : Room) s m args below meth c H locs 0 0 Q (F0 m pc ls [.int r])) (hJ8 : ∀ (x1 : Int32) (x2 : Int32) (x3 : Int32) (x4 : Int32) (x5 : Int32) (u4 : zSt) (H : Heap) (locs : List Loc) (ls : Array Slot), J8 x1 x2 x3 x4 x5 u4 → zDy D A s.heap (k4 a cI cZ u4) H locs → lv_has ls 7 [(0, .ref (a 4 99)), (1, .int x1), (2, .int x2), (3, .int x3), (4, .int x4), (5, .int x5)] → W p l e ({ frames := 1, cells := 0, slots := 0, locals := 23 } : Room) s m args below meth c H locs 0 0 Q (F0 m 8 ls [])) (hv : wp_X4_bestNext_0 J8 Q1 p1 p2 u4) : W p l e ({ frames := 1, cells := 0, slots := 0, locals := 23 } : Room) s m args below meth c H locs 0 0 Q (F0 m 0 ls []) := by
  unfold wp_X4_bestNext_0 at hv
  obtain ⟨hx, hb, hml, hown, hts, hK, hA⟩ := id C
  refine lv_iconst (v := (-1)) hx hb dX4_bestNext_0 (by decide) ?_
  refine z_topi hv (fun x3_1 ex3_1 hv => ?_)
  refine lv_istore_n (lv' := [(3, .int x3_1), (0, .ref (a 4 99)), (1, .int p1), (2, .int p2)]) hx hb dX4_bestNext_1 rfl hl (by decide) rfl (fun ls hl => ?_)
  refine lv_iconst (v := 0) hx hb dX4_bestNext_2 (by decide) ?_
  refine z_topi hv (fun x4_2 ex4_2 hv => ?_)
  refine lv_istore (lv' := [(4, .int x4_2), (3, .int x3_1), (0, .ref (a 4 99)), (1, .int p1), (2, .int p2)]) hx hb dX4_bestNext_3 hl (by decide) rfl (fun ls hl => ?_)
  refine lv_iconst (v := 0) hx hb dX4_bestNext_5 (by decide) ?_
  refine z_topi hv (fun x5_3 ex5_3 hv => ?_)
  refine lv_istore (lv' := [(5, .int x5_3), (4, .int x4_2), (3, .int x3_1), (0, .ref (a 4 99)), (1, .int p1), (2, .int p2)]) hx hb dX4_bestNext_6 hl (by decide) rfl (fun ls hl => ?_)
  exact hJ8 _ _ _ _ _ _ _ _ _ hv Y (lv_sub hl [3, 4, 5, 2, 1, 0] rfl)

def wp_X4_bestNext_47 (J8 : Int32 → Int32 → Int32 → Int32 → Int32 → zSt → Prop) (Q1 : Int32 → zSt → Prop) (x1 : Int32) (x2 : Int32) (x5 : Int32) (x6 : Int32) (u4 : zSt) : Prop :=
  ∀ x3_1 : Int32, x3_1 = x5 → ∀ x4_2 : Int32, x4_2 = x6 → ∀ x5_3 : Int32, x5_3 = x5 + 1 → J8 x1 x2 x3_1 x4_2 x5_3 u4

set_option maxHeartbeats 4000000 in
set_option maxRecDepth 100000 in
theorem bk_X4_bestNext_47 {a : Nat → Nat → Nat} {J8 : Int32 → Int32 → Int32 → Int32 → Int32 → zSt → Prop} {Q1 : Int32 → zSt → Prop} {x1 : Int32} {x2 : Int32} {x5 : Int32} {x6 : Int32} {u4 : zSt} (C : zCx p s m args c cX4_bestNext 7 RX4 wsX4_bestNext D cI cZ cJ A) (Y : zDy D A s.heap (k4 a cI cZ u4) H locs) (hl : lv_has ls 7 [(0, .ref (a 4 99)), (1, .int x1), (2, .int x2), (5, .int x5), (6, .int x6)]) (hret : ∀ {pc : Nat} {H : Heap} {locs : List Loc} {ls : Array Slot} {r : Int32} {u : zSt}, zDy D A s.heap ((fun u : zSt => k4 a cI cZ u) u) H locs → Q1 r u → decode cX4_bestNext pc = .ok (.ireturn, 1) → W p l e ({ frames := 1, cells := 0, slots := 0, locals := 23 } : Room) s m args below meth c H locs 0 0 Q (F0 m pc ls [.int r])) (hJ8 : ∀ (x1 : Int32) (x2 : Int32) (x3 : Int32) (x4 : Int32) (x5 : Int32) (u4 : zSt) (H : Heap) (locs : List Loc) (ls : Array Slot), J8 x1 x2 x3 x4 x5 u4 → zDy D A s.heap (k4 a cI cZ u4) H locs → lv_has ls 7 [(0, .ref (a 4 99)), (1, .int x1), (2, .int x2), (3, .int x3), (4, .int x4), (5, .int x5)] → W p l e ({ frames := 1, cells := 0, slots := 0, locals := 23 } : Room) s m args below meth c H locs 0 0 Q (F0 m 8 ls [])) (hv : wp_X4_bestNext_47 J8 Q1 x1 x2 x5 x6 u4) : W p l e ({ frames := 1, cells := 0, slots := 0, locals := 23 } : Room) s m args below meth c H locs 0 0 Q (F0 m 47 ls []) := by
  unfold wp_X4_bestNext_47 at hv
  obtain ⟨hx, hb, hml, hown, hts, hK, hA⟩ := id C
  refine lv_iload hx hb dX4_bestNext_47 (lv_at hl 3 rfl) ?_
  refine z_topi hv (fun x3_1 ex3_1 hv => ?_)
  refine lv_istore_n (lv' := [(3, .int x3_1), (0, .ref (a 4 99)), (1, .int x1), (2, .int x2), (5, .int x5), (6, .int x6)]) hx hb dX4_bestNext_49 rfl hl (by decide) rfl (fun ls hl => ?_)
  refine lv_iload hx hb dX4_bestNext_50 (lv_at hl 5 rfl) ?_
  refine z_topi hv (fun x4_2 ex4_2 hv => ?_)
  refine lv_istore (lv' := [(4, .int x4_2), (3, .int x3_1), (0, .ref (a 4 99)), (1, .int x1), (2, .int x2), (5, .int x5), (6, .int x6)]) hx hb dX4_bestNext_52 hl (by decide) rfl (fun ls hl => ?_)
  obtain ⟨x5_3, ex5_3, hv⟩ := z_nv hv
  refine lv_iinc (v := x5_3) (lv' := [(5, .int x5_3), (4, .int x4_2), (3, .int x3_1), (0, .ref (a 4 99)), (1, .int x1), (2, .int x2), (6, .int x6)]) hx hb dX4_bestNext_54 hl (k := 5) rfl (by rw [ex5_3]; rfl) (by decide) rfl (fun ls hl => ?_)
  refine lv_goto (tgt := 8) hx hb dX4_bestNext_57 (by decide) ?_
  exact hJ8 _ _ _ _ _ _ _ _ _ hv Y (lv_sub hl [3, 4, 5, 2, 1, 0] rfl)

def wp_X4_bestNext_8 (J8 : Int32 → Int32 → Int32 → Int32 → Int32 → zSt → Prop) (Q1 : Int32 → zSt → Prop) (x1 : Int32) (x2 : Int32) (x3 : Int32) (x4 : Int32) (x5 : Int32) (u4 : zSt) : Prop :=
  ((6 : Int32) ≤ x5 → Q1 x3 u4) ∧ (¬ (6 : Int32) ≤ x5 → vp_in x5 6 ∧ (((u4.2 5 x5.toNatClampNeg) ≤ (0 : Int32) → ∀ x5_1 : Int32, x5_1 = x5 + 1 → J8 x1 x2 x3 x4 x5_1 u4) ∧ (¬ (u4.2 5 x5.toNatClampNeg) ≤ (0 : Int32) → TX4_costThrough (fun (r_3 : Int32) (u4_2 : zSt) => ∀ x6_4 : Int32, x6_4 = r_3 → (x3 = (-1 : Int32) → wp_X4_bestNext_47 J8 Q1 x1 x2 x5 x6_4 u4_2) ∧ (¬ x3 = (-1 : Int32) → (x4 ≤ x6_4 → ∀ x5_5 : Int32, x5_5 = x5 + 1 → J8 x1 x2 x3 x4 x5_5 u4_2) ∧ (¬ x4 ≤ x6_4 → wp_X4_bestNext_47 J8 Q1 x1 x2 x5 x6_4 u4_2))) x1 x2 x5 u4)))

set_option maxHeartbeats 4000000 in
set_option maxRecDepth 100000 in
theorem bk_X4_bestNext_8 {a : Nat → Nat → Nat} {J8 : Int32 → Int32 → Int32 → Int32 → Int32 → zSt → Prop} {Q1 : Int32 → zSt → Prop} {x1 : Int32} {x2 : Int32} {x3 : Int32} {x4 : Int32} {x5 : Int32} {u4 : zSt} (C : zCx p s m args c cX4_bestNext 7 RX4 wsX4_bestNext D cI cZ cJ A) (Y : zDy D A s.heap (k4 a cI cZ u4) H locs) (hl : lv_has ls 7 [(0, .ref (a 4 99)), (1, .int x1), (2, .int x2), (3, .int x3), (4, .int x4), (5, .int x5)]) (hret : ∀ {pc : Nat} {H : Heap} {locs : List Loc} {ls : Array Slot} {r : Int32} {u : zSt}, zDy D A s.heap ((fun u : zSt => k4 a cI cZ u) u) H locs → Q1 r u → decode cX4_bestNext pc = .ok (.ireturn, 1) → W p l e ({ frames := 1, cells := 0, slots := 0, locals := 23 } : Room) s m args below meth c H locs 0 0 Q (F0 m pc ls [.int r])) (hJ8 : ∀ (x1 : Int32) (x2 : Int32) (x3 : Int32) (x4 : Int32) (x5 : Int32) (u4 : zSt) (H : Heap) (locs : List Loc) (ls : Array Slot), J8 x1 x2 x3 x4 x5 u4 → zDy D A s.heap (k4 a cI cZ u4) H locs → lv_has ls 7 [(0, .ref (a 4 99)), (1, .int x1), (2, .int x2), (3, .int x3), (4, .int x4), (5, .int x5)] → W p l e ({ frames := 1, cells := 0, slots := 0, locals := 23 } : Room) s m args below meth c H locs 0 0 Q (F0 m 8 ls [])) (hv : wp_X4_bestNext_8 J8 Q1 x1 x2 x3 x4 x5 u4) : W p l e ({ frames := 1, cells := 0, slots := 0, locals := 23 } : Room) s m args below meth c H locs 0 0 Q (F0 m 8 ls []) := by
  unfold wp_X4_bestNext_8 at hv
  obtain ⟨hx, hb, hml, hown, hts, hK, hA⟩ := id C
  refine lv_iload hx hb dX4_bestNext_8 (lv_at hl 5 rfl) ?_
  refine lv_bipush (v := 6) hx hb dX4_bestNext_10 (by decide) ?_
  refine lv_icmp_ge (tgt := 60) hx hb dX4_bestNext_12 (by decide) (fun hc => ?_) (fun hc => ?_)
  · have hv := hv.1 hc
    refine lv_iload_n hx hb dX4_bestNext_60 rfl (lv_at hl 3 rfl) ?_
    exact hret Y hv dX4_bestNext_61
  · have hv := hv.2 hc
    refine lv_aload_n hx hb dX4_bestNext_15 rfl (lv_at hl 0 rfl) ?_
    refine z_get C Y (Cn := RX4) (T := TX4) (N := 7) in_X4_bestNext_4 rfl (ge4_4 ..) 5 (by decide) fl_X4_bestNext_25 rfl dX4_bestNext_16 ?_
    refine lv_iload hx hb dX4_bestNext_19 (lv_at hl 5 rfl) ?_
    obtain ⟨hi, hv⟩ := hv
    refine z_ldI C Y (pa4_4_5 ..) hi dX4_bestNext_21 ?_
    refine lv_if_le (tgt := 54) hx hb dX4_bestNext_22 (by decide) (fun hc => ?_) (fun hc => ?_)
    · have hv := hv.1 hc
      obtain ⟨x5_1, ex5_1, hv⟩ := z_nv hv
      refine lv_iinc (v := x5_1) (lv' := [(5, .int x5_1), (0, .ref (a 4 99)), (1, .int x1), (2, .int x2), (3, .int x3), (4, .int x4)]) hx hb dX4_bestNext_54 hl (k := 5) rfl (by rw [ex5_1]; rfl) (by decide) rfl (fun ls hl => ?_)
      refine lv_goto (tgt := 8) hx hb dX4_bestNext_57 (by decide) ?_
      exact hJ8 _ _ _ _ _ _ _ _ _ hv Y (lv_sub hl [1, 2, 3, 4, 5, 0] rfl)
    · have hv := hv.2 hc
      refine lv_aload_n hx hb dX4_bestNext_25 rfl (lv_at hl 0 rfl) ?_
      refine lv_iload_n hx hb dX4_bestNext_26 rfl (lv_at hl 1 rfl) ?_
      refine lv_iload_n hx hb dX4_bestNext_27 rfl (lv_at hl 2 rfl) ?_
      refine lv_iload hx hb dX4_bestNext_28 (lv_at hl 5 rfl) ?_
      refine z_callVi C Y (c_X4_costThrough l hv) (zFr.self _ _) (cwV 3 hts gX4_bestNext_X4_costThrough rfl rfl rfl (by decide +kernel) ⟨(Nat.le_of_ble_eq_true rfl), (Nat.le_of_ble_eq_true rfl)⟩) (ge4_4 ..) rfl rfl rfl hl.1 rfl (Nat.le_of_ble_eq_true rfl) dX4_bestNext_30 ⟨Nat.zero_le _, Nat.zero_le _⟩ (fun r_3 u4_2 H locs Y hv => ?_)
      refine z_topi hv (fun x6_4 ex6_4 hv => ?_)
      refine lv_istore (lv' := [(6, .int x6_4), (0, .ref (a 4 99)), (1, .int x1), (2, .int x2), (3, .int x3), (4, .int x4), (5, .int x5)]) hx hb dX4_bestNext_33 hl (by decide) rfl (fun ls hl => ?_)
      refine lv_iload_n hx hb dX4_bestNext_35 rfl (lv_at hl 4 rfl) ?_
      refine lv_iconst (v := (-1)) hx hb dX4_bestNext_36 (by decide) ?_
      refine lv_icmp_eq (tgt := 47) hx hb dX4_bestNext_37 (by decide) (fun hc => ?_) (fun hc => ?_)
      · have hv := hv.1 hc
        exact bk_X4_bestNext_47 C Y (lv_sub hl [1, 2, 3, 6, 0] rfl) hret hJ8 hv
      · have hv := hv.2 hc
        refine lv_iload hx hb dX4_bestNext_40 (lv_at hl 0 rfl) ?_
        refine lv_iload hx hb dX4_bestNext_42 (lv_at hl 5 rfl) ?_
        refine lv_icmp_ge (tgt := 54) hx hb dX4_bestNext_44 (by decide) (fun hc => ?_) (fun hc => ?_)
        · have hv := hv.1 hc
          obtain ⟨x5_5, ex5_5, hv⟩ := z_nv hv
          refine lv_iinc (v := x5_5) (lv' := [(5, .int x5_5), (6, .int x6_4), (0, .ref (a 4 99)), (1, .int x1), (2, .int x2), (3, .int x3), (4, .int x4)]) hx hb dX4_bestNext_54 hl (k := 6) rfl (by rw [ex5_5]; rfl) (by decide) rfl (fun ls hl => ?_)
          refine lv_goto (tgt := 8) hx hb dX4_bestNext_57 (by decide) ?_
          exact hJ8 _ _ _ _ _ _ _ _ _ hv Y (lv_sub hl [2, 3, 4, 5, 6, 0] rfl)
        · have hv := hv.2 hc
          exact bk_X4_bestNext_47 C Y (lv_sub hl [1, 2, 3, 6, 0] rfl) hret hJ8 hv

end
set_option maxHeartbeats 4000000 in
set_option maxRecDepth 100000 in
theorem k_X4_bestNext (l : Launch) {D : va_G} {cI cZ cJ : ClassId} {a : Nat → Nat → Nat} {Q1 : Int32 → zSt → Prop} {p1 : Int32} {p2 : Int32} {u4 : zSt} (I8 : Nat → Int32 → Int32 → Int32 → Int32 → Int32 → zSt → Prop)
    (hv : wp_X4_bestNext_0 (fun x1 x2 x3 x4 x5 u4 => ∃ n : Nat, I8 n x1 x2 x3 x4 x5 u4) Q1 p1 p2 u4)
    (hI8 : ∀ (n : Nat) (x1 : Int32) (x2 : Int32) (x3 : Int32) (x4 : Int32) (x5 : Int32) (u4 : zSt), I8 n x1 x2 x3 x4 x5 u4 → wp_X4_bestNext_8 (fun x1 x2 x3 x4 x5 u4 => ∃ k : Nat, k < n ∧ I8 k x1 x2 x3 x4 x5 u4) Q1 x1 x2 x3 x4 x5 u4) : zMI l yX4_bestNext wsX4_bestNext ({ frames := 1, cells := 0, slots := 0, locals := 23 } : Room) D cI cZ cJ [.ref (a 4 99), .int p1, .int p2] (k4 a cI cZ u4) (fun u : zSt => k4 a cI cZ u) Q1 := by
  refine z_ofI (by decide) rfl rfl (Nat.le_of_ble_eq_true rfl) (@fun p e s m args below meth c A Q ls C Y hl hret => ?_)
  have key : ∀ n : Nat, (∀ (x1 : Int32) (x2 : Int32) (x3 : Int32) (x4 : Int32) (x5 : Int32) (u4 : zSt) (H : Heap) (locs : List Loc) (ls : Array Slot), I8 n x1 x2 x3 x4 x5 u4 → zDy D A s.heap (k4 a cI cZ u4) H locs → lv_has ls 7 [(0, .ref (a 4 99)), (1, .int x1), (2, .int x2), (3, .int x3), (4, .int x4), (5, .int x5)] → W p l e ({ frames := 1, cells := 0, slots := 0, locals := 23 } : Room) s m args below meth c H locs 0 0 Q (F0 m 8 ls [])) := by
    intro n
    induction n using Nat.strongRecOn with
    | _ n ih =>
      exact fun x1 x2 x3 x4 x5 u4 H locs ls hi Y hl => bk_X4_bestNext_8 C Y hl hret (fun y0 y1 y2 y3 y4 y5 H locs ls hi Y hl => by obtain ⟨k, hk, hi⟩ := hi; exact (ih k hk) y0 y1 y2 y3 y4 y5 H locs ls hi Y hl) (hI8 n x1 x2 x3 x4 x5 u4 hi)
  exact bk_X4_bestNext_0 C Y hl hret (fun y0 y1 y2 y3 y4 y5 H locs ls hi Y hl => by obtain ⟨n, hi⟩ := hi; exact (key n) y0 y1 y2 y3 y4 y5 H locs ls hi Y hl) hv
def TX4_bestNext (Q1 : Int32 → zSt → Prop) (p1 : Int32) (p2 : Int32) (u4 : zSt) : Prop :=
  ∃ I8 : Nat → Int32 → Int32 → Int32 → Int32 → Int32 → zSt → Prop, (wp_X4_bestNext_0 (fun x1 x2 x3 x4 x5 u4 => ∃ n : Nat, I8 n x1 x2 x3 x4 x5 u4) Q1 p1 p2 u4) ∧ (∀ (n : Nat) (x1 : Int32) (x2 : Int32) (x3 : Int32) (x4 : Int32) (x5 : Int32) (u4 : zSt), I8 n x1 x2 x3 x4 x5 u4 → wp_X4_bestNext_8 (fun x1 x2 x3 x4 x5 u4 => ∃ k : Nat, k < n ∧ I8 k x1 x2 x3 x4 x5 u4) Q1 x1 x2 x3 x4 x5 u4)
set_option maxHeartbeats 4000000 in
set_option maxRecDepth 100000 in
theorem c_X4_bestNext (l : Launch) {D : va_G} {cI cZ cJ : ClassId} {a : Nat → Nat → Nat} {Q1 : Int32 → zSt → Prop} {p1 : Int32} {p2 : Int32} {u4 : zSt} (hv : TX4_bestNext Q1 p1 p2 u4) : zMI l yX4_bestNext wsX4_bestNext ({ frames := 1, cells := 0, slots := 0, locals := 23 } : Room) D cI cZ cJ [.ref (a 4 99), .int p1, .int p2] (k4 a cI cZ u4) (fun u : zSt => k4 a cI cZ u) Q1 := by
  obtain ⟨I8, hv, hI8⟩ := hv
  exact k_X4_bestNext l I8 hv hI8


theorem in_X4_walkBestOrder_4 : ∀ w ∈ wsX40, w ∈ wsX4_walkBestOrder := by first | exact fun w h => List.mem_cons_of_mem _ (List.mem_append_right _ h) | exact fun w h => List.mem_cons_of_mem _ (List.mem_append_left _ (List.mem_append_right _ h)) | decide +kernel
theorem fl_X4_walkBestOrder_9 : Cond.fieldLink RX4 9 (TX4 0).1 (TX4 0).2.1 (TX4 0).2.2.1 ∈ wsX4_walkBestOrder := by decide +kernel
theorem fl_X4_walkBestOrder_15 : Cond.fieldLink RX4 15 (TX4 2).1 (TX4 2).2.1 (TX4 2).2.2.1 ∈ wsX4_walkBestOrder := by decide +kernel
theorem fl_X4_walkBestOrder_22 : Cond.fieldLink RX4 22 (TX4 4).1 (TX4 4).2.1 (TX4 4).2.2.1 ∈ wsX4_walkBestOrder := by decide +kernel
theorem fl_X4_walkBestOrder_31 : Cond.fieldLink RX4 31 (TX4 1).1 (TX4 1).2.1 (TX4 1).2.2.1 ∈ wsX4_walkBestOrder := by decide +kernel
section
variable {p : Program} {l : Launch} {e : Env} {s : State} {m : MethodId} {args : Array Value} {below : List Frame} {meth : Method} {c : Code} {H : Heap} {locs : List Loc} {Q : State → Prop} {D : va_G} {cI cZ cJ : ClassId} {A : Nat → Prop} {ls : Array Slot}
def wp_X4_walkBestOrder_0 (J7 : Int32 → Int32 → Int32 → zSt → Prop) (Q1 : Int32 → zSt → Prop) (p1 : Int32) (u4 : zSt) : Prop :=
  ∀ x2_1 : Int32, x2_1 = 0 → ∀ x3_2 : Int32, x3_2 = p1 → ∀ x4_3 : Int32, x4_3 = 0 → J7 x2_1 x3_2 x4_3 u4

set_option maxHeartbeats 4000000 in
set_option maxRecDepth 100000 in
theorem bk_X4_walkBestOrder_0 {a : Nat → Nat → Nat} {J7 : Int32 → Int32 → Int32 → zSt → Prop} {Q1 : Int32 → zSt → Prop} {p1 : Int32} {u4 : zSt} (C : zCx p s m args c cX4_walkBestOrder 7 RX4 wsX4_walkBestOrder D cI cZ cJ A) (Y : zDy D A s.heap (k4 a cI cZ u4) H locs) (hl : lv_has ls 7 [(0, .ref (a 4 99)), (1, .int p1)]) (hret : ∀ {pc : Nat} {H : Heap} {locs : List Loc} {ls : Array Slot} {r : Int32} {u : zSt}, zDy D A s.heap ((fun u : zSt => k4 a cI cZ u) u) H locs → Q1 r u → decode cX4_walkBestOrder pc = .ok (.ireturn, 1) → W p l e ({ frames := 2, cells := 0, slots := 0, locals := 49 } : Room) s m args below meth c H locs 0 0 Q (F0 m pc ls [.int r])) (hJ7 : ∀ (x2 : Int32) (x3 : Int32) (x4 : Int32) (u4 : zSt) (H : Heap) (locs : List Loc) (ls : Array Slot), J7 x2 x3 x4 u4 → zDy D A s.heap (k4 a cI cZ u4) H locs → lv_has ls 7 [(0, .ref (a 4 99)), (2, .int x2), (3, .int x3), (4, .int x4)] → W p l e ({ frames := 2, cells := 0, slots := 0, locals := 49 } : Room) s m args below meth c H locs 0 0 Q (F0 m 7 ls [])) (hv : wp_X4_walkBestOrder_0 J7 Q1 p1 u4) : W p l e ({ frames := 2, cells := 0, slots := 0, locals := 49 } : Room) s m args below meth c H locs 0 0 Q (F0 m 0 ls []) := by
  unfold wp_X4_walkBestOrder_0 at hv
  obtain ⟨hx, hb, hml, hown, hts, hK, hA⟩ := id C
  refine lv_iconst (v := 0) hx hb dX4_walkBestOrder_0 (by decide) ?_
  refine z_topi hv (fun x2_1 ex2_1 hv => ?_)
  refine lv_istore_n (lv' := [(2, .int x2_1), (0, .ref (a 4 99)), (1, .int p1)]) hx hb dX4_walkBestOrder_1 rfl hl (by decide) rfl (fun ls hl => ?_)
  refine lv_iload_n hx hb dX4_walkBestOrder_2 rfl (lv_at hl 2 rfl) ?_
  refine z_topi hv (fun x3_2 ex3_2 hv => ?_)
  refine lv_istore_n (lv' := [(3, .int x3_2), (2, .int x2_1), (0, .ref (a 4 99)), (1, .int p1)]) hx hb dX4_walkBestOrder_3 rfl hl (by decide) rfl (fun ls hl => ?_)
  refine lv_iconst (v := 0) hx hb dX4_walkBestOrder_4 (by decide) ?_
  refine z_topi hv (fun x4_3 ex4_3 hv => ?_)
  refine lv_istore (lv' := [(4, .int x4_3), (3, .int x3_2), (2, .int x2_1), (0, .ref (a 4 99)), (1, .int p1)]) hx hb dX4_walkBestOrder_5 hl (by decide) rfl (fun ls hl => ?_)
  exact hJ7 _ _ _ _ _ _ _ hv Y (lv_sub hl [3, 2, 1, 0] rfl)

def wp_X4_walkBestOrder_38 (J7 : Int32 → Int32 → Int32 → zSt → Prop) (Q1 : Int32 → zSt → Prop) (x2 : Int32) (x3 : Int32) (x4 : Int32) (t0 : Int32) (u4 : zSt) : Prop :=
  ∀ x5_1 : Int32, x5_1 = t0 → TX4_bestNext (fun (r_3 : Int32) (u4_2 : zSt) => ∀ x6_4 : Int32, x6_4 = r_3 → (x6_4 = (-1 : Int32) → Q1 x2 u4_2) ∧ (¬ x6_4 = (-1 : Int32) → vp_in ((x5_1 * 6) + x6_4) 42 ∧ (∀ x2_5 : Int32, x2_5 = (x2 + (u4_2.2 0 ((x5_1 * 6) + x6_4).toNatClampNeg)) → vp_in x6_4 6 ∧ (∀ x3_6 : Int32, x3_6 = (x3 - (u4_2.2 4 x6_4.toNatClampNeg)) → ∀ u4_7 : zSt, u4_7 = zI u4_2 2 x6_4 → ∀ x4_8 : Int32, x4_8 = x4 + 1 → J7 x2_5 x3_6 x4_8 u4_7)))) x3 x5_1 u4

set_option maxHeartbeats 4000000 in
set_option maxRecDepth 100000 in
theorem bk_X4_walkBestOrder_38 {a : Nat → Nat → Nat} {J7 : Int32 → Int32 → Int32 → zSt → Prop} {Q1 : Int32 → zSt → Prop} {x2 : Int32} {x3 : Int32} {x4 : Int32} {t0 : Int32} {u4 : zSt} (C : zCx p s m args c cX4_walkBestOrder 7 RX4 wsX4_walkBestOrder D cI cZ cJ A) (Y : zDy D A s.heap (k4 a cI cZ u4) H locs) (hl : lv_has ls 7 [(0, .ref (a 4 99)), (2, .int x2), (3, .int x3), (4, .int x4)]) (hret : ∀ {pc : Nat} {H : Heap} {locs : List Loc} {ls : Array Slot} {r : Int32} {u : zSt}, zDy D A s.heap ((fun u : zSt => k4 a cI cZ u) u) H locs → Q1 r u → decode cX4_walkBestOrder pc = .ok (.ireturn, 1) → W p l e ({ frames := 2, cells := 0, slots := 0, locals := 49 } : Room) s m args below meth c H locs 0 0 Q (F0 m pc ls [.int r])) (hJ7 : ∀ (x2 : Int32) (x3 : Int32) (x4 : Int32) (u4 : zSt) (H : Heap) (locs : List Loc) (ls : Array Slot), J7 x2 x3 x4 u4 → zDy D A s.heap (k4 a cI cZ u4) H locs → lv_has ls 7 [(0, .ref (a 4 99)), (2, .int x2), (3, .int x3), (4, .int x4)] → W p l e ({ frames := 2, cells := 0, slots := 0, locals := 49 } : Room) s m args below meth c H locs 0 0 Q (F0 m 7 ls [])) (hv : wp_X4_walkBestOrder_38 J7 Q1 x2 x3 x4 t0 u4) : W p l e ({ frames := 2, cells := 0, slots := 0, locals := 49 } : Room) s m args below meth c H locs 0 0 Q (F0 m 38 ls [.int t0]) := by
  unfold wp_X4_walkBestOrder_38 at hv
  obtain ⟨hx, hb, hml, hown, hts, hK, hA⟩ := id C
  refine z_topi hv (fun x5_1 ex5_1 hv => ?_)
  refine lv_istore (lv' := [(5, .int x5_1), (0, .ref (a 4 99)), (2, .int x2), (3, .int x3), (4, .int x4)]) hx hb dX4_walkBestOrder_38 hl (by decide) rfl (fun ls hl => ?_)
  refine lv_aload_n hx hb dX4_walkBestOrder_40 rfl (lv_at hl 1 rfl) ?_
  refine lv_iload_n hx hb dX4_walkBestOrder_41 rfl (lv_at hl 3 rfl) ?_
  refine lv_iload hx hb dX4_walkBestOrder_42 (lv_at hl 0 rfl) ?_
  refine z_callVi C Y (c_X4_bestNext l hv) (zFr.self _ _) (cwV 2 hts gX4_walkBestOrder_X4_bestNext rfl rfl rfl (by decide +kernel) ⟨(Nat.le_of_ble_eq_true rfl), (Nat.le_of_ble_eq_true rfl)⟩) (ge4_4 ..) rfl rfl rfl hl.1 rfl (Nat.le_of_ble_eq_true rfl) dX4_walkBestOrder_44 ⟨Nat.zero_le _, Nat.zero_le _⟩ (fun r_3 u4_2 H locs Y hv => ?_)
  refine z_topi hv (fun x6_4 ex6_4 hv => ?_)
  refine lv_istore (lv' := [(6, .int x6_4), (5, .int x5_1), (0, .ref (a 4 99)), (2, .int x2), (3, .int x3), (4, .int x4)]) hx hb dX4_walkBestOrder_47 hl (by decide) rfl (fun ls hl => ?_)
  refine lv_iload hx hb dX4_walkBestOrder_49 (lv_at hl 0 rfl) ?_
  refine lv_iconst (v := (-1)) hx hb dX4_walkBestOrder_51 (by decide) ?_
  refine lv_icmp_ne (tgt := 58) hx hb dX4_walkBestOrder_52 (by decide) (fun hc => ?_) (fun hc => ?_)
  · have hv := hv.2 hc
    refine lv_iload_n hx hb dX4_walkBestOrder_58 rfl (lv_at hl 3 rfl) ?_
    refine lv_aload_n hx hb dX4_walkBestOrder_59 rfl (lv_at hl 2 rfl) ?_
    refine z_get C Y (Cn := RX4) (T := TX4) (N := 7) in_X4_walkBestOrder_4 rfl (ge4_4 ..) 0 (by decide) fl_X4_walkBestOrder_9 rfl dX4_walkBestOrder_60 ?_
    refine lv_iload hx hb dX4_walkBestOrder_63 (lv_at hl 1 rfl) ?_
    refine lv_bipush (v := 6) hx hb dX4_walkBestOrder_65 (by decide) ?_
    refine lv_imul hx hb dX4_walkBestOrder_67 ?_
    refine lv_iload hx hb dX4_walkBestOrder_68 (lv_at hl 0 rfl) ?_
    refine lv_iadd hx hb dX4_walkBestOrder_70 ?_
    obtain ⟨hi, hv⟩ := hv
    refine z_ldI C Y (pa4_4_0 ..) hi dX4_walkBestOrder_71 ?_
    refine lv_iadd hx hb dX4_walkBestOrder_72 ?_
    refine z_topi hv (fun x2_5 ex2_5 hv => ?_)
    refine lv_istore_n (lv' := [(2, .int x2_5), (6, .int x6_4), (5, .int x5_1), (0, .ref (a 4 99)), (3, .int x3), (4, .int x4)]) hx hb dX4_walkBestOrder_73 rfl hl (by decide) rfl (fun ls hl => ?_)
    refine lv_iload_n hx hb dX4_walkBestOrder_74 rfl (lv_at hl 4 rfl) ?_
    refine lv_aload_n hx hb dX4_walkBestOrder_75 rfl (lv_at hl 3 rfl) ?_
    refine z_get C Y (Cn := RX4) (T := TX4) (N := 7) in_X4_walkBestOrder_4 rfl (ge4_4 ..) 4 (by decide) fl_X4_walkBestOrder_22 rfl dX4_walkBestOrder_76 ?_
    refine lv_iload hx hb dX4_walkBestOrder_79 (lv_at hl 1 rfl) ?_
    obtain ⟨hi, hv⟩ := hv
    refine z_ldI C Y (pa4_4_4 ..) hi dX4_walkBestOrder_81 ?_
    refine lv_isub hx hb dX4_walkBestOrder_82 ?_
    refine z_topi hv (fun x3_6 ex3_6 hv => ?_)
    refine lv_istore_n (lv' := [(3, .int x3_6), (2, .int x2_5), (6, .int x6_4), (5, .int x5_1), (0, .ref (a 4 99)), (4, .int x4)]) hx hb dX4_walkBestOrder_83 rfl hl (by decide) rfl (fun ls hl => ?_)
    refine lv_aload_n hx hb dX4_walkBestOrder_84 rfl (lv_at hl 4 rfl) ?_
    refine lv_iload hx hb dX4_walkBestOrder_85 (lv_at hl 2 rfl) ?_
    refine z_putI C Y (Cn := RX4) (T := TX4) (N := 7) in_X4_walkBestOrder_4 rfl tyX4 tyX4_ok nmX4 (ge4_4 ..) 2 (by decide) fl_X4_walkBestOrder_15 rfl (by decide +kernel) (Nat.le_of_ble_eq_true rfl) (si4_4_2 ..) dX4_walkBestOrder_87 (fun H locs Y => ?_)
    obtain ⟨u4_7, eu4_7, Y, hv⟩ := z_nm (kf := fun z => (k4 a cI cZ z)) Y hv
    obtain ⟨x4_8, ex4_8, hv⟩ := z_nv hv
    refine lv_iinc (v := x4_8) (lv' := [(4, .int x4_8), (3, .int x3_6), (2, .int x2_5), (6, .int x6_4), (5, .int x5_1), (0, .ref (a 4 99))]) hx hb dX4_walkBestOrder_90 hl (k := 5) rfl (by rw [ex4_8]; rfl) (by decide) rfl (fun ls hl => ?_)
    refine lv_goto (tgt := 7) hx hb dX4_walkBestOrder_93 (by decide) ?_
    exact hJ7 _ _ _ _ _ _ _ hv Y (lv_sub hl [5, 2, 1, 0] rfl)
  · have hv := hv.1 hc
    refine lv_goto (tgt := 96) hx hb dX4_walkBestOrder_55 (by decide) ?_
    refine lv_iload_n hx hb dX4_walkBestOrder_96 rfl (lv_at hl 3 rfl) ?_
    exact hret Y hv dX4_walkBestOrder_97

def wp_X4_walkBestOrder_7 (J7 : Int32 → Int32 → Int32 → zSt → Prop) (Q1 : Int32 → zSt → Prop) (x2 : Int32) (x3 : Int32) (x4 : Int32) (u4 : zSt) : Prop :=
  ((u4.1 1) ≤ x4 → Q1 x2 u4) ∧ (¬ (u4.1 1) ≤ x4 → TX4_setLeft (fun (u4_1 : zSt) => ((u4_1.1 2) = (-1 : Int32) → wp_X4_walkBestOrder_38 J7 Q1 x2 x3 x4 6 u4_1) ∧ (¬ (u4_1.1 2) = (-1 : Int32) → wp_X4_walkBestOrder_38 J7 Q1 x2 x3 x4 (u4_1.1 2) u4_1)) x3 u4)

set_option maxHeartbeats 4000000 in
set_option maxRecDepth 100000 in
theorem bk_X4_walkBestOrder_7 {a : Nat → Nat → Nat} {J7 : Int32 → Int32 → Int32 → zSt → Prop} {Q1 : Int32 → zSt → Prop} {x2 : Int32} {x3 : Int32} {x4 : Int32} {u4 : zSt} (C : zCx p s m args c cX4_walkBestOrder 7 RX4 wsX4_walkBestOrder D cI cZ cJ A) (Y : zDy D A s.heap (k4 a cI cZ u4) H locs) (hl : lv_has ls 7 [(0, .ref (a 4 99)), (2, .int x2), (3, .int x3), (4, .int x4)]) (hret : ∀ {pc : Nat} {H : Heap} {locs : List Loc} {ls : Array Slot} {r : Int32} {u : zSt}, zDy D A s.heap ((fun u : zSt => k4 a cI cZ u) u) H locs → Q1 r u → decode cX4_walkBestOrder pc = .ok (.ireturn, 1) → W p l e ({ frames := 2, cells := 0, slots := 0, locals := 49 } : Room) s m args below meth c H locs 0 0 Q (F0 m pc ls [.int r])) (hJ7 : ∀ (x2 : Int32) (x3 : Int32) (x4 : Int32) (u4 : zSt) (H : Heap) (locs : List Loc) (ls : Array Slot), J7 x2 x3 x4 u4 → zDy D A s.heap (k4 a cI cZ u4) H locs → lv_has ls 7 [(0, .ref (a 4 99)), (2, .int x2), (3, .int x3), (4, .int x4)] → W p l e ({ frames := 2, cells := 0, slots := 0, locals := 49 } : Room) s m args below meth c H locs 0 0 Q (F0 m 7 ls [])) (hv : wp_X4_walkBestOrder_7 J7 Q1 x2 x3 x4 u4) : W p l e ({ frames := 2, cells := 0, slots := 0, locals := 49 } : Room) s m args below meth c H locs 0 0 Q (F0 m 7 ls []) := by
  unfold wp_X4_walkBestOrder_7 at hv
  obtain ⟨hx, hb, hml, hown, hts, hK, hA⟩ := id C
  refine lv_iload hx hb dX4_walkBestOrder_7 (lv_at hl 3 rfl) ?_
  refine lv_aload_n hx hb dX4_walkBestOrder_9 rfl (lv_at hl 0 rfl) ?_
  refine z_get C Y (Cn := RX4) (T := TX4) (N := 7) in_X4_walkBestOrder_4 rfl (ge4_4 ..) 1 (by decide) fl_X4_walkBestOrder_31 rfl dX4_walkBestOrder_10 ?_
  refine lv_icmp_ge (tgt := 96) hx hb dX4_walkBestOrder_13 (by decide) (fun hc => ?_) (fun hc => ?_)
  · have hv := hv.1 hc
    refine lv_iload_n hx hb dX4_walkBestOrder_96 rfl (lv_at hl 1 rfl) ?_
    exact hret Y hv dX4_walkBestOrder_97
  · have hv := hv.2 hc
    refine lv_aload_n hx hb dX4_walkBestOrder_16 rfl (lv_at hl 0 rfl) ?_
    refine lv_iload_n hx hb dX4_walkBestOrder_17 rfl (lv_at hl 2 rfl) ?_
    refine z_callVv C Y (c_X4_setLeft l hv) (zFr.self _ _) (cwV 1 hts gX4_walkBestOrder_X4_setLeft rfl rfl rfl (by decide +kernel) ⟨(Nat.le_of_ble_eq_true rfl), (Nat.le_of_ble_eq_true rfl)⟩) (ge4_4 ..) rfl rfl rfl hl.1 rfl (Nat.le_of_ble_eq_true rfl) dX4_walkBestOrder_18 ⟨Nat.zero_le _, Nat.zero_le _⟩ (fun u4_1 H locs Y hv => ?_)
    refine lv_aload_n hx hb dX4_walkBestOrder_21 rfl (lv_at hl 0 rfl) ?_
    refine z_get C Y (Cn := RX4) (T := TX4) (N := 7) in_X4_walkBestOrder_4 rfl (ge4_4 ..) 2 (by decide) fl_X4_walkBestOrder_15 rfl dX4_walkBestOrder_22 ?_
    refine lv_iconst (v := (-1)) hx hb dX4_walkBestOrder_25 (by decide) ?_
    refine lv_icmp_ne (tgt := 34) hx hb dX4_walkBestOrder_26 (by decide) (fun hc => ?_) (fun hc => ?_)
    · have hv := hv.2 hc
      refine lv_aload_n hx hb dX4_walkBestOrder_34 rfl (lv_at hl 0 rfl) ?_
      refine z_get C Y (Cn := RX4) (T := TX4) (N := 7) in_X4_walkBestOrder_4 rfl (ge4_4 ..) 2 (by decide) fl_X4_walkBestOrder_15 rfl dX4_walkBestOrder_35 ?_
      exact bk_X4_walkBestOrder_38 C Y (lv_sub hl [0, 1, 2, 3] rfl) hret hJ7 hv
    · have hv := hv.1 hc
      refine lv_bipush (v := 6) hx hb dX4_walkBestOrder_29 (by decide) ?_
      refine lv_goto (tgt := 38) hx hb dX4_walkBestOrder_31 (by decide) ?_
      exact bk_X4_walkBestOrder_38 C Y (lv_sub hl [0, 1, 2, 3] rfl) hret hJ7 hv

end
set_option maxHeartbeats 4000000 in
set_option maxRecDepth 100000 in
theorem k_X4_walkBestOrder (l : Launch) {D : va_G} {cI cZ cJ : ClassId} {a : Nat → Nat → Nat} {Q1 : Int32 → zSt → Prop} {p1 : Int32} {u4 : zSt} (I7 : Nat → Int32 → Int32 → Int32 → zSt → Prop)
    (hv : wp_X4_walkBestOrder_0 (fun x2 x3 x4 u4 => ∃ n : Nat, I7 n x2 x3 x4 u4) Q1 p1 u4)
    (hI7 : ∀ (n : Nat) (x2 : Int32) (x3 : Int32) (x4 : Int32) (u4 : zSt), I7 n x2 x3 x4 u4 → wp_X4_walkBestOrder_7 (fun x2 x3 x4 u4 => ∃ k : Nat, k < n ∧ I7 k x2 x3 x4 u4) Q1 x2 x3 x4 u4) : zMI l yX4_walkBestOrder wsX4_walkBestOrder ({ frames := 2, cells := 0, slots := 0, locals := 49 } : Room) D cI cZ cJ [.ref (a 4 99), .int p1] (k4 a cI cZ u4) (fun u : zSt => k4 a cI cZ u) Q1 := by
  refine z_ofI (by decide) rfl rfl (Nat.le_of_ble_eq_true rfl) (@fun p e s m args below meth c A Q ls C Y hl hret => ?_)
  have key : ∀ n : Nat, (∀ (x2 : Int32) (x3 : Int32) (x4 : Int32) (u4 : zSt) (H : Heap) (locs : List Loc) (ls : Array Slot), I7 n x2 x3 x4 u4 → zDy D A s.heap (k4 a cI cZ u4) H locs → lv_has ls 7 [(0, .ref (a 4 99)), (2, .int x2), (3, .int x3), (4, .int x4)] → W p l e ({ frames := 2, cells := 0, slots := 0, locals := 49 } : Room) s m args below meth c H locs 0 0 Q (F0 m 7 ls [])) := by
    intro n
    induction n using Nat.strongRecOn with
    | _ n ih =>
      exact fun x2 x3 x4 u4 H locs ls hi Y hl => bk_X4_walkBestOrder_7 C Y hl hret (fun y0 y1 y2 y3 H locs ls hi Y hl => by obtain ⟨k, hk, hi⟩ := hi; exact (ih k hk) y0 y1 y2 y3 H locs ls hi Y hl) (hI7 n x2 x3 x4 u4 hi)
  exact bk_X4_walkBestOrder_0 C Y hl hret (fun y0 y1 y2 y3 H locs ls hi Y hl => by obtain ⟨n, hi⟩ := hi; exact (key n) y0 y1 y2 y3 H locs ls hi Y hl) hv
def TX4_walkBestOrder (Q1 : Int32 → zSt → Prop) (p1 : Int32) (u4 : zSt) : Prop :=
  ∃ I7 : Nat → Int32 → Int32 → Int32 → zSt → Prop, (wp_X4_walkBestOrder_0 (fun x2 x3 x4 u4 => ∃ n : Nat, I7 n x2 x3 x4 u4) Q1 p1 u4) ∧ (∀ (n : Nat) (x2 : Int32) (x3 : Int32) (x4 : Int32) (u4 : zSt), I7 n x2 x3 x4 u4 → wp_X4_walkBestOrder_7 (fun x2 x3 x4 u4 => ∃ k : Nat, k < n ∧ I7 k x2 x3 x4 u4) Q1 x2 x3 x4 u4)
set_option maxHeartbeats 4000000 in
set_option maxRecDepth 100000 in
theorem c_X4_walkBestOrder (l : Launch) {D : va_G} {cI cZ cJ : ClassId} {a : Nat → Nat → Nat} {Q1 : Int32 → zSt → Prop} {p1 : Int32} {u4 : zSt} (hv : TX4_walkBestOrder Q1 p1 u4) : zMI l yX4_walkBestOrder wsX4_walkBestOrder ({ frames := 2, cells := 0, slots := 0, locals := 49 } : Room) D cI cZ cJ [.ref (a 4 99), .int p1] (k4 a cI cZ u4) (fun u : zSt => k4 a cI cZ u) Q1 := by
  obtain ⟨I7, hv, hI7⟩ := hv
  exact k_X4_walkBestOrder l I7 hv hI7


theorem in_X4_clearJobs_4 : ∀ w ∈ wsX40, w ∈ wsX4_clearJobs := by first | exact fun w h => List.mem_cons_of_mem _ (List.mem_append_right _ h) | exact fun w h => List.mem_cons_of_mem _ (List.mem_append_left _ (List.mem_append_right _ h)) | decide +kernel
theorem fl_X4_clearJobs_19 : Cond.fieldLink RX4 19 (TX4 3).1 (TX4 3).2.1 (TX4 3).2.2.1 ∈ wsX4_clearJobs := by decide +kernel
theorem fl_X4_clearJobs_31 : Cond.fieldLink RX4 31 (TX4 1).1 (TX4 1).2.1 (TX4 1).2.2.1 ∈ wsX4_clearJobs := by decide +kernel
section
variable {p : Program} {l : Launch} {e : Env} {s : State} {m : MethodId} {args : Array Value} {below : List Frame} {meth : Method} {c : Code} {H : Heap} {locs : List Loc} {Q : State → Prop} {D : va_G} {cI cZ cJ : ClassId} {A : Nat → Prop} {ls : Array Slot}
def wp_X4_clearJobs_0 (J7 : Int32 → zSt → Prop) (Q1 : zSt → Prop) (u4 : zSt) : Prop :=
  ∀ u4_1 : zSt, u4_1 = zI u4 1 0 → ∀ x1_2 : Int32, x1_2 = 0 → J7 x1_2 u4_1

set_option maxHeartbeats 4000000 in
set_option maxRecDepth 100000 in
theorem bk_X4_clearJobs_0 {a : Nat → Nat → Nat} {J7 : Int32 → zSt → Prop} {Q1 : zSt → Prop} {u4 : zSt} (C : zCx p s m args c cX4_clearJobs 2 RX4 wsX4_clearJobs D cI cZ cJ A) (Y : zDy D A s.heap (k4 a cI cZ u4) H locs) (hl : lv_has ls 2 [(0, .ref (a 4 99))]) (hret : ∀ {pc : Nat} {H : Heap} {locs : List Loc} {ls : Array Slot} {u : zSt}, zDy D A s.heap ((fun u : zSt => k4 a cI cZ u) u) H locs → Q1 u → decode cX4_clearJobs pc = .ok (.return_, 1) → W p l e ({ frames := 0, cells := 0, slots := 0, locals := 0 } : Room) s m args below meth c H locs 0 0 Q (F0 m pc ls [])) (hJ7 : ∀ (x1 : Int32) (u4 : zSt) (H : Heap) (locs : List Loc) (ls : Array Slot), J7 x1 u4 → zDy D A s.heap (k4 a cI cZ u4) H locs → lv_has ls 2 [(0, .ref (a 4 99)), (1, .int x1)] → W p l e ({ frames := 0, cells := 0, slots := 0, locals := 0 } : Room) s m args below meth c H locs 0 0 Q (F0 m 7 ls [])) (hv : wp_X4_clearJobs_0 J7 Q1  u4) : W p l e ({ frames := 0, cells := 0, slots := 0, locals := 0 } : Room) s m args below meth c H locs 0 0 Q (F0 m 0 ls []) := by
  unfold wp_X4_clearJobs_0 at hv
  obtain ⟨hx, hb, hml, hown, hts, hK, hA⟩ := id C
  refine lv_aload_n hx hb dX4_clearJobs_0 rfl (lv_at hl 0 rfl) ?_
  refine lv_iconst (v := 0) hx hb dX4_clearJobs_1 (by decide) ?_
  refine z_putI C Y (Cn := RX4) (T := TX4) (N := 7) in_X4_clearJobs_4 rfl tyX4 tyX4_ok nmX4 (ge4_4 ..) 1 (by decide) fl_X4_clearJobs_31 rfl (by decide +kernel) (Nat.le_of_ble_eq_true rfl) (si4_4_1 ..) dX4_clearJobs_2 (fun H locs Y => ?_)
  obtain ⟨u4_1, eu4_1, Y, hv⟩ := z_nm (kf := fun z => (k4 a cI cZ z)) Y hv
  refine lv_iconst (v := 0) hx hb dX4_clearJobs_5 (by decide) ?_
  refine z_topi hv (fun x1_2 ex1_2 hv => ?_)
  refine lv_istore_n (lv' := [(1, .int x1_2), (0, .ref (a 4 99))]) hx hb dX4_clearJobs_6 rfl hl (by decide) rfl (fun ls hl => ?_)
  exact hJ7 _ _ _ _ _ hv Y (lv_sub hl [1, 0] rfl)

def wp_X4_clearJobs_7 (J7 : Int32 → zSt → Prop) (Q1 : zSt → Prop) (x1 : Int32) (u4 : zSt) : Prop :=
  ((6 : Int32) ≤ x1 → Q1 u4) ∧ (¬ (6 : Int32) ≤ x1 → vp_in x1 6 ∧ (∀ u4_1 : zSt, u4_1 = zA u4 3 (upd (u4.2 3) x1.toNatClampNeg 0) → ∀ x1_2 : Int32, x1_2 = x1 + 1 → J7 x1_2 u4_1))

set_option maxHeartbeats 4000000 in
set_option maxRecDepth 100000 in
theorem bk_X4_clearJobs_7 {a : Nat → Nat → Nat} {J7 : Int32 → zSt → Prop} {Q1 : zSt → Prop} {x1 : Int32} {u4 : zSt} (C : zCx p s m args c cX4_clearJobs 2 RX4 wsX4_clearJobs D cI cZ cJ A) (Y : zDy D A s.heap (k4 a cI cZ u4) H locs) (hl : lv_has ls 2 [(0, .ref (a 4 99)), (1, .int x1)]) (hret : ∀ {pc : Nat} {H : Heap} {locs : List Loc} {ls : Array Slot} {u : zSt}, zDy D A s.heap ((fun u : zSt => k4 a cI cZ u) u) H locs → Q1 u → decode cX4_clearJobs pc = .ok (.return_, 1) → W p l e ({ frames := 0, cells := 0, slots := 0, locals := 0 } : Room) s m args below meth c H locs 0 0 Q (F0 m pc ls [])) (hJ7 : ∀ (x1 : Int32) (u4 : zSt) (H : Heap) (locs : List Loc) (ls : Array Slot), J7 x1 u4 → zDy D A s.heap (k4 a cI cZ u4) H locs → lv_has ls 2 [(0, .ref (a 4 99)), (1, .int x1)] → W p l e ({ frames := 0, cells := 0, slots := 0, locals := 0 } : Room) s m args below meth c H locs 0 0 Q (F0 m 7 ls [])) (hv : wp_X4_clearJobs_7 J7 Q1 x1 u4) : W p l e ({ frames := 0, cells := 0, slots := 0, locals := 0 } : Room) s m args below meth c H locs 0 0 Q (F0 m 7 ls []) := by
  unfold wp_X4_clearJobs_7 at hv
  obtain ⟨hx, hb, hml, hown, hts, hK, hA⟩ := id C
  refine lv_iload_n hx hb dX4_clearJobs_7 rfl (lv_at hl 1 rfl) ?_
  refine lv_bipush (v := 6) hx hb dX4_clearJobs_8 (by decide) ?_
  refine lv_icmp_ge (tgt := 26) hx hb dX4_clearJobs_10 (by decide) (fun hc => ?_) (fun hc => ?_)
  · have hv := hv.1 hc
    exact hret Y hv dX4_clearJobs_26
  · have hv := hv.2 hc
    refine lv_aload_n hx hb dX4_clearJobs_13 rfl (lv_at hl 0 rfl) ?_
    refine z_get C Y (Cn := RX4) (T := TX4) (N := 7) in_X4_clearJobs_4 rfl (ge4_4 ..) 3 (by decide) fl_X4_clearJobs_19 rfl dX4_clearJobs_14 ?_
    refine lv_iload_n hx hb dX4_clearJobs_17 rfl (lv_at hl 1 rfl) ?_
    refine lv_iconst (v := 0) hx hb dX4_clearJobs_18 (by decide) ?_
    obtain ⟨hi, hv⟩ := hv
    refine z_stI C Y (pa4_4_3 ..) (sa4_4_3 ..) hi dX4_clearJobs_19 (fun H locs Y => ?_)
    obtain ⟨u4_1, eu4_1, Y, hv⟩ := z_nm (kf := fun z => (k4 a cI cZ z)) Y hv
    obtain ⟨x1_2, ex1_2, hv⟩ := z_nv hv
    refine lv_iinc (v := x1_2) (lv' := [(1, .int x1_2), (0, .ref (a 4 99))]) hx hb dX4_clearJobs_20 hl (k := 1) rfl (by rw [ex1_2]; rfl) (by decide) rfl (fun ls hl => ?_)
    refine lv_goto (tgt := 7) hx hb dX4_clearJobs_23 (by decide) ?_
    exact hJ7 _ _ _ _ _ hv Y (lv_sub hl [1, 0] rfl)

end
set_option maxHeartbeats 4000000 in
set_option maxRecDepth 100000 in
theorem k_X4_clearJobs (l : Launch) {D : va_G} {cI cZ cJ : ClassId} {a : Nat → Nat → Nat} {Q1 : zSt → Prop} {u4 : zSt} (I7 : Nat → Int32 → zSt → Prop)
    (hv : wp_X4_clearJobs_0 (fun x1 u4 => ∃ n : Nat, I7 n x1 u4) Q1  u4)
    (hI7 : ∀ (n : Nat) (x1 : Int32) (u4 : zSt), I7 n x1 u4 → wp_X4_clearJobs_7 (fun x1 u4 => ∃ k : Nat, k < n ∧ I7 k x1 u4) Q1 x1 u4) : zMV l yX4_clearJobs wsX4_clearJobs ({ frames := 0, cells := 0, slots := 0, locals := 0 } : Room) D cI cZ cJ [.ref (a 4 99)] (k4 a cI cZ u4) (fun u : zSt => k4 a cI cZ u) Q1 := by
  refine z_ofV (by decide) rfl rfl (Nat.le_of_ble_eq_true rfl) (@fun p e s m args below meth c A Q ls C Y hl hret => ?_)
  have key : ∀ n : Nat, (∀ (x1 : Int32) (u4 : zSt) (H : Heap) (locs : List Loc) (ls : Array Slot), I7 n x1 u4 → zDy D A s.heap (k4 a cI cZ u4) H locs → lv_has ls 2 [(0, .ref (a 4 99)), (1, .int x1)] → W p l e ({ frames := 0, cells := 0, slots := 0, locals := 0 } : Room) s m args below meth c H locs 0 0 Q (F0 m 7 ls [])) := by
    intro n
    induction n using Nat.strongRecOn with
    | _ n ih =>
      exact fun x1 u4 H locs ls hi Y hl => bk_X4_clearJobs_7 C Y hl hret (fun y0 y1 H locs ls hi Y hl => by obtain ⟨k, hk, hi⟩ := hi; exact (ih k hk) y0 y1 H locs ls hi Y hl) (hI7 n x1 u4 hi)
  exact bk_X4_clearJobs_0 C Y hl hret (fun y0 y1 H locs ls hi Y hl => by obtain ⟨n, hi⟩ := hi; exact (key n) y0 y1 H locs ls hi Y hl) hv
def TX4_clearJobs (Q1 : zSt → Prop) (u4 : zSt) : Prop :=
  ∃ I7 : Nat → Int32 → zSt → Prop, (wp_X4_clearJobs_0 (fun x1 u4 => ∃ n : Nat, I7 n x1 u4) Q1  u4) ∧ (∀ (n : Nat) (x1 : Int32) (u4 : zSt), I7 n x1 u4 → wp_X4_clearJobs_7 (fun x1 u4 => ∃ k : Nat, k < n ∧ I7 k x1 u4) Q1 x1 u4)
set_option maxHeartbeats 4000000 in
set_option maxRecDepth 100000 in
theorem c_X4_clearJobs (l : Launch) {D : va_G} {cI cZ cJ : ClassId} {a : Nat → Nat → Nat} {Q1 : zSt → Prop} {u4 : zSt} (hv : TX4_clearJobs Q1  u4) : zMV l yX4_clearJobs wsX4_clearJobs ({ frames := 0, cells := 0, slots := 0, locals := 0 } : Room) D cI cZ cJ [.ref (a 4 99)] (k4 a cI cZ u4) (fun u : zSt => k4 a cI cZ u) Q1 := by
  obtain ⟨I7, hv, hI7⟩ := hv
  exact k_X4_clearJobs l I7 hv hI7


theorem in_X4_runJobs_4 : ∀ w ∈ wsX40, w ∈ wsX4_runJobs := by first | exact fun w h => List.mem_cons_of_mem _ (List.mem_append_right _ h) | exact fun w h => List.mem_cons_of_mem _ (List.mem_append_left _ (List.mem_append_right _ h)) | decide +kernel
theorem fl_X4_runJobs_28 : Cond.fieldLink RX4 28 (TX4 6).1 (TX4 6).2.1 (TX4 6).2.2.1 ∈ wsX4_runJobs := by decide +kernel
section
variable {p : Program} {l : Launch} {e : Env} {s : State} {m : MethodId} {args : Array Value} {below : List Frame} {meth : Method} {c : Code} {H : Heap} {locs : List Loc} {Q : State → Prop} {D : va_G} {cI cZ cJ : ClassId} {A : Nat → Prop} {ls : Array Slot}
def wp_X4_runJobs_0 (J7 : Int32 → Int32 → zSt → Prop) (J19 : Int32 → Int32 → Int32 → zSt → Prop) (Q1 : Int32 → zSt → Prop) (u4 : zSt) : Prop :=
  TX4_setWeights (fun (r_2 : Int32) (u4_1 : zSt) => ∀ x1_3 : Int32, x1_3 = r_2 → ∀ x2_4 : Int32, x2_4 = 1 → J7 x1_3 x2_4 u4_1)  u4

set_option maxHeartbeats 4000000 in
set_option maxRecDepth 100000 in
theorem bk_X4_runJobs_0 {a : Nat → Nat → Nat} {J7 : Int32 → Int32 → zSt → Prop} {J19 : Int32 → Int32 → Int32 → zSt → Prop} {Q1 : Int32 → zSt → Prop} {u4 : zSt} (C : zCx p s m args c cX4_runJobs 4 RX4 wsX4_runJobs D cI cZ cJ A) (Y : zDy D A s.heap (k4 a cI cZ u4) H locs) (hl : lv_has ls 4 [(0, .ref (a 4 99))]) (hret : ∀ {pc : Nat} {H : Heap} {locs : List Loc} {ls : Array Slot} {r : Int32} {u : zSt}, zDy D A s.heap ((fun u : zSt => k4 a cI cZ u) u) H locs → Q1 r u → decode cX4_runJobs pc = .ok (.ireturn, 1) → W p l e ({ frames := 3, cells := 0, slots := 0, locals := 75 } : Room) s m args below meth c H locs 0 0 Q (F0 m pc ls [.int r])) (hJ7 : ∀ (x1 : Int32) (x2 : Int32) (u4 : zSt) (H : Heap) (locs : List Loc) (ls : Array Slot), J7 x1 x2 u4 → zDy D A s.heap (k4 a cI cZ u4) H locs → lv_has ls 4 [(0, .ref (a 4 99)), (1, .int x1), (2, .int x2)] → W p l e ({ frames := 3, cells := 0, slots := 0, locals := 75 } : Room) s m args below meth c H locs 0 0 Q (F0 m 7 ls [])) (hJ19 : ∀ (x1 : Int32) (x2 : Int32) (x3 : Int32) (u4 : zSt) (H : Heap) (locs : List Loc) (ls : Array Slot), J19 x1 x2 x3 u4 → zDy D A s.heap (k4 a cI cZ u4) H locs → lv_has ls 4 [(0, .ref (a 4 99)), (1, .int x1), (2, .int x2), (3, .int x3)] → W p l e ({ frames := 3, cells := 0, slots := 0, locals := 75 } : Room) s m args below meth c H locs 0 0 Q (F0 m 19 ls [])) (hv : wp_X4_runJobs_0 J7 J19 Q1  u4) : W p l e ({ frames := 3, cells := 0, slots := 0, locals := 75 } : Room) s m args below meth c H locs 0 0 Q (F0 m 0 ls []) := by
  unfold wp_X4_runJobs_0 at hv
  obtain ⟨hx, hb, hml, hown, hts, hK, hA⟩ := id C
  refine lv_aload_n hx hb dX4_runJobs_0 rfl (lv_at hl 0 rfl) ?_
  refine z_callVi C Y (c_X4_setWeights l hv) (zFr.self _ _) (cwV 0 hts gX4_runJobs_X4_setWeights rfl rfl rfl (by decide +kernel) ⟨(Nat.le_of_ble_eq_true rfl), (Nat.le_of_ble_eq_true rfl)⟩) (ge4_4 ..) rfl rfl rfl hl.1 rfl (Nat.le_of_ble_eq_true rfl) dX4_runJobs_1 ⟨Nat.zero_le _, Nat.zero_le _⟩ (fun r_2 u4_1 H locs Y hv => ?_)
  refine z_topi hv (fun x1_3 ex1_3 hv => ?_)
  refine lv_istore_n (lv' := [(1, .int x1_3), (0, .ref (a 4 99))]) hx hb dX4_runJobs_4 rfl hl (by decide) rfl (fun ls hl => ?_)
  refine lv_iconst (v := 1) hx hb dX4_runJobs_5 (by decide) ?_
  refine z_topi hv (fun x2_4 ex2_4 hv => ?_)
  refine lv_istore_n (lv' := [(2, .int x2_4), (1, .int x1_3), (0, .ref (a 4 99))]) hx hb dX4_runJobs_6 rfl hl (by decide) rfl (fun ls hl => ?_)
  exact hJ7 _ _ _ _ _ _ hv Y (lv_sub hl [2, 1, 0] rfl)

def wp_X4_runJobs_7 (J7 : Int32 → Int32 → zSt → Prop) (J19 : Int32 → Int32 → Int32 → zSt → Prop) (Q1 : Int32 → zSt → Prop) (x1 : Int32) (x2 : Int32) (u4 : zSt) : Prop :=
  (x1 ≤ x2 → TX4_walkBestOrder (fun (r_2 : Int32) (u4_1 : zSt) => ∀ x2_3 : Int32, x2_3 = r_2 → TX4_clearJobs (fun (u4_4 : zSt) => Q1 x2_3 u4_4)  u4_1) (x1 - 1) u4) ∧ (¬ x1 ≤ x2 → TX4_setLeft (fun (u4_6 : zSt) => ∀ x3_8 : Int32, x3_8 = 0 → J19 x1 x2 x3_8 u4_6) x2 u4)

set_option maxHeartbeats 4000000 in
set_option maxRecDepth 100000 in
theorem bk_X4_runJobs_7 {a : Nat → Nat → Nat} {J7 : Int32 → Int32 → zSt → Prop} {J19 : Int32 → Int32 → Int32 → zSt → Prop} {Q1 : Int32 → zSt → Prop} {x1 : Int32} {x2 : Int32} {u4 : zSt} (C : zCx p s m args c cX4_runJobs 4 RX4 wsX4_runJobs D cI cZ cJ A) (Y : zDy D A s.heap (k4 a cI cZ u4) H locs) (hl : lv_has ls 4 [(0, .ref (a 4 99)), (1, .int x1), (2, .int x2)]) (hret : ∀ {pc : Nat} {H : Heap} {locs : List Loc} {ls : Array Slot} {r : Int32} {u : zSt}, zDy D A s.heap ((fun u : zSt => k4 a cI cZ u) u) H locs → Q1 r u → decode cX4_runJobs pc = .ok (.ireturn, 1) → W p l e ({ frames := 3, cells := 0, slots := 0, locals := 75 } : Room) s m args below meth c H locs 0 0 Q (F0 m pc ls [.int r])) (hJ7 : ∀ (x1 : Int32) (x2 : Int32) (u4 : zSt) (H : Heap) (locs : List Loc) (ls : Array Slot), J7 x1 x2 u4 → zDy D A s.heap (k4 a cI cZ u4) H locs → lv_has ls 4 [(0, .ref (a 4 99)), (1, .int x1), (2, .int x2)] → W p l e ({ frames := 3, cells := 0, slots := 0, locals := 75 } : Room) s m args below meth c H locs 0 0 Q (F0 m 7 ls [])) (hJ19 : ∀ (x1 : Int32) (x2 : Int32) (x3 : Int32) (u4 : zSt) (H : Heap) (locs : List Loc) (ls : Array Slot), J19 x1 x2 x3 u4 → zDy D A s.heap (k4 a cI cZ u4) H locs → lv_has ls 4 [(0, .ref (a 4 99)), (1, .int x1), (2, .int x2), (3, .int x3)] → W p l e ({ frames := 3, cells := 0, slots := 0, locals := 75 } : Room) s m args below meth c H locs 0 0 Q (F0 m 19 ls [])) (hv : wp_X4_runJobs_7 J7 J19 Q1 x1 x2 u4) : W p l e ({ frames := 3, cells := 0, slots := 0, locals := 75 } : Room) s m args below meth c H locs 0 0 Q (F0 m 7 ls []) := by
  unfold wp_X4_runJobs_7 at hv
  obtain ⟨hx, hb, hml, hown, hts, hK, hA⟩ := id C
  refine lv_iload_n hx hb dX4_runJobs_7 rfl (lv_at hl 2 rfl) ?_
  refine lv_iload_n hx hb dX4_runJobs_8 rfl (lv_at hl 1 rfl) ?_
  refine lv_icmp_ge (tgt := 60) hx hb dX4_runJobs_9 (by decide) (fun hc => ?_) (fun hc => ?_)
  · have hv := hv.1 hc
    refine lv_aload_n hx hb dX4_runJobs_60 rfl (lv_at hl 0 rfl) ?_
    refine lv_iload_n hx hb dX4_runJobs_61 rfl (lv_at hl 1 rfl) ?_
    refine lv_iconst (v := 1) hx hb dX4_runJobs_62 (by decide) ?_
    refine lv_isub hx hb dX4_runJobs_63 ?_
    refine z_callVi C Y (c_X4_walkBestOrder l hv) (zFr.self _ _) (cwV 1 hts gX4_runJobs_X4_walkBestOrder rfl rfl rfl (by decide +kernel) ⟨(Nat.le_of_ble_eq_true rfl), (Nat.le_of_ble_eq_true rfl)⟩) (ge4_4 ..) rfl rfl rfl hl.1 rfl (Nat.le_of_ble_eq_true rfl) dX4_runJobs_64 ⟨Nat.zero_le _, Nat.zero_le _⟩ (fun r_2 u4_1 H locs Y hv => ?_)
    refine z_topi hv (fun x2_3 ex2_3 hv => ?_)
    refine lv_istore_n (lv' := [(2, .int x2_3), (0, .ref (a 4 99)), (1, .int x1)]) hx hb dX4_runJobs_67 rfl hl (by decide) rfl (fun ls hl => ?_)
    refine lv_aload_n hx hb dX4_runJobs_68 rfl (lv_at hl 1 rfl) ?_
    refine z_callVv C Y (c_X4_clearJobs l hv) (zFr.self _ _) (cwV 0 hts gX4_runJobs_X4_clearJobs rfl rfl rfl (by decide +kernel) ⟨(Nat.le_of_ble_eq_true rfl), (Nat.le_of_ble_eq_true rfl)⟩) (ge4_4 ..) rfl rfl rfl hl.1 rfl (Nat.le_of_ble_eq_true rfl) dX4_runJobs_69 ⟨Nat.zero_le _, Nat.zero_le _⟩ (fun u4_4 H locs Y hv => ?_)
    refine lv_iload_n hx hb dX4_runJobs_72 rfl (lv_at hl 0 rfl) ?_
    exact hret Y hv dX4_runJobs_73
  · have hv := hv.2 hc
    refine lv_aload_n hx hb dX4_runJobs_12 rfl (lv_at hl 0 rfl) ?_
    refine lv_iload_n hx hb dX4_runJobs_13 rfl (lv_at hl 2 rfl) ?_
    refine z_callVv C Y (c_X4_setLeft l hv) (zFr.self _ _) (cwV 1 hts gX4_runJobs_X4_setLeft rfl rfl rfl (by decide +kernel) ⟨(Nat.le_of_ble_eq_true rfl), (Nat.le_of_ble_eq_true rfl)⟩) (ge4_4 ..) rfl rfl rfl hl.1 rfl (Nat.le_of_ble_eq_true rfl) dX4_runJobs_14 ⟨Nat.zero_le _, Nat.zero_le _⟩ (fun u4_6 H locs Y hv => ?_)
    refine lv_iconst (v := 0) hx hb dX4_runJobs_17 (by decide) ?_
    refine z_topi hv (fun x3_8 ex3_8 hv => ?_)
    refine lv_istore_n (lv' := [(3, .int x3_8), (0, .ref (a 4 99)), (1, .int x1), (2, .int x2)]) hx hb dX4_runJobs_18 rfl hl (by decide) rfl (fun ls hl => ?_)
    exact hJ19 _ _ _ _ _ _ _ hv Y (lv_sub hl [1, 2, 3, 0] rfl)

def wp_X4_runJobs_19 (J7 : Int32 → Int32 → zSt → Prop) (J19 : Int32 → Int32 → Int32 → zSt → Prop) (Q1 : Int32 → zSt → Prop) (x1 : Int32) (x2 : Int32) (x3 : Int32) (u4 : zSt) : Prop :=
  ((6 : Int32) ≤ x3 → ∀ x2_1 : Int32, x2_1 = x2 + 1 → J7 x1 x2_1 u4) ∧ (¬ (6 : Int32) ≤ x3 → TX4_bestNext (fun (r_3 : Int32) (u4_2 : zSt) => TX4_costThrough (fun (r_5 : Int32) (u4_4 : zSt) => vp_in ((x2 * 6) + x3) 1944 ∧ (∀ u4_6 : zSt, u4_6 = zA u4_4 6 (upd (u4_4.2 6) ((x2 * 6) + x3).toNatClampNeg r_5) → ∀ x3_7 : Int32, x3_7 = x3 + 1 → J19 x1 x2 x3_7 u4_6)) x2 x3 r_3 u4_2) x2 x3 u4)

set_option maxHeartbeats 4000000 in
set_option maxRecDepth 100000 in
theorem bk_X4_runJobs_19 {a : Nat → Nat → Nat} {J7 : Int32 → Int32 → zSt → Prop} {J19 : Int32 → Int32 → Int32 → zSt → Prop} {Q1 : Int32 → zSt → Prop} {x1 : Int32} {x2 : Int32} {x3 : Int32} {u4 : zSt} (C : zCx p s m args c cX4_runJobs 4 RX4 wsX4_runJobs D cI cZ cJ A) (Y : zDy D A s.heap (k4 a cI cZ u4) H locs) (hl : lv_has ls 4 [(0, .ref (a 4 99)), (1, .int x1), (2, .int x2), (3, .int x3)]) (hret : ∀ {pc : Nat} {H : Heap} {locs : List Loc} {ls : Array Slot} {r : Int32} {u : zSt}, zDy D A s.heap ((fun u : zSt => k4 a cI cZ u) u) H locs → Q1 r u → decode cX4_runJobs pc = .ok (.ireturn, 1) → W p l e ({ frames := 3, cells := 0, slots := 0, locals := 75 } : Room) s m args below meth c H locs 0 0 Q (F0 m pc ls [.int r])) (hJ7 : ∀ (x1 : Int32) (x2 : Int32) (u4 : zSt) (H : Heap) (locs : List Loc) (ls : Array Slot), J7 x1 x2 u4 → zDy D A s.heap (k4 a cI cZ u4) H locs → lv_has ls 4 [(0, .ref (a 4 99)), (1, .int x1), (2, .int x2)] → W p l e ({ frames := 3, cells := 0, slots := 0, locals := 75 } : Room) s m args below meth c H locs 0 0 Q (F0 m 7 ls [])) (hJ19 : ∀ (x1 : Int32) (x2 : Int32) (x3 : Int32) (u4 : zSt) (H : Heap) (locs : List Loc) (ls : Array Slot), J19 x1 x2 x3 u4 → zDy D A s.heap (k4 a cI cZ u4) H locs → lv_has ls 4 [(0, .ref (a 4 99)), (1, .int x1), (2, .int x2), (3, .int x3)] → W p l e ({ frames := 3, cells := 0, slots := 0, locals := 75 } : Room) s m args below meth c H locs 0 0 Q (F0 m 19 ls [])) (hv : wp_X4_runJobs_19 J7 J19 Q1 x1 x2 x3 u4) : W p l e ({ frames := 3, cells := 0, slots := 0, locals := 75 } : Room) s m args below meth c H locs 0 0 Q (F0 m 19 ls []) := by
  unfold wp_X4_runJobs_19 at hv
  obtain ⟨hx, hb, hml, hown, hts, hK, hA⟩ := id C
  refine lv_iload_n hx hb dX4_runJobs_19 rfl (lv_at hl 3 rfl) ?_
  refine lv_bipush (v := 6) hx hb dX4_runJobs_20 (by decide) ?_
  refine lv_icmp_ge (tgt := 54) hx hb dX4_runJobs_22 (by decide) (fun hc => ?_) (fun hc => ?_)
  · have hv := hv.1 hc
    obtain ⟨x2_1, ex2_1, hv⟩ := z_nv hv
    refine lv_iinc (v := x2_1) (lv' := [(2, .int x2_1), (0, .ref (a 4 99)), (1, .int x1), (3, .int x3)]) hx hb dX4_runJobs_54 hl (k := 2) rfl (by rw [ex2_1]; rfl) (by decide) rfl (fun ls hl => ?_)
    refine lv_goto (tgt := 7) hx hb dX4_runJobs_57 (by decide) ?_
    exact hJ7 _ _ _ _ _ _ hv Y (lv_sub hl [1, 2, 0] rfl)
  · have hv := hv.2 hc
    refine lv_aload_n hx hb dX4_runJobs_25 rfl (lv_at hl 0 rfl) ?_
    refine z_get C Y (Cn := RX4) (T := TX4) (N := 7) in_X4_runJobs_4 rfl (ge4_4 ..) 6 (by decide) fl_X4_runJobs_28 rfl dX4_runJobs_26 ?_
    refine lv_iload_n hx hb dX4_runJobs_29 rfl (lv_at hl 2 rfl) ?_
    refine lv_bipush (v := 6) hx hb dX4_runJobs_30 (by decide) ?_
    refine lv_imul hx hb dX4_runJobs_32 ?_
    refine lv_iload_n hx hb dX4_runJobs_33 rfl (lv_at hl 3 rfl) ?_
    refine lv_iadd hx hb dX4_runJobs_34 ?_
    refine lv_aload_n hx hb dX4_runJobs_35 rfl (lv_at hl 0 rfl) ?_
    refine lv_iload_n hx hb dX4_runJobs_36 rfl (lv_at hl 2 rfl) ?_
    refine lv_iload_n hx hb dX4_runJobs_37 rfl (lv_at hl 3 rfl) ?_
    refine lv_aload_n hx hb dX4_runJobs_38 rfl (lv_at hl 0 rfl) ?_
    refine lv_iload_n hx hb dX4_runJobs_39 rfl (lv_at hl 2 rfl) ?_
    refine lv_iload_n hx hb dX4_runJobs_40 rfl (lv_at hl 3 rfl) ?_
    refine z_callVi C Y (c_X4_bestNext l hv) (zFr.self _ _) (cwV 2 hts gX4_runJobs_X4_bestNext rfl rfl rfl (by decide +kernel) ⟨(Nat.le_of_ble_eq_true rfl), (Nat.le_of_ble_eq_true rfl)⟩) (ge4_4 ..) rfl rfl rfl hl.1 rfl (Nat.le_of_ble_eq_true rfl) dX4_runJobs_41 ⟨Nat.zero_le _, Nat.zero_le _⟩ (fun r_3 u4_2 H locs Y hv => ?_)
    refine z_callVi C Y (c_X4_costThrough l hv) (zFr.self _ _) (cwV 3 hts gX4_runJobs_X4_costThrough rfl rfl rfl (by decide +kernel) ⟨(Nat.le_of_ble_eq_true rfl), (Nat.le_of_ble_eq_true rfl)⟩) (ge4_4 ..) rfl rfl rfl hl.1 rfl (Nat.le_of_ble_eq_true rfl) dX4_runJobs_44 ⟨Nat.zero_le _, Nat.zero_le _⟩ (fun r_5 u4_4 H locs Y hv => ?_)
    obtain ⟨hi, hv⟩ := hv
    refine z_stI C Y (pa4_4_6 ..) (sa4_4_6 ..) hi dX4_runJobs_47 (fun H locs Y => ?_)
    obtain ⟨u4_6, eu4_6, Y, hv⟩ := z_nm (kf := fun z => (k4 a cI cZ z)) Y hv
    obtain ⟨x3_7, ex3_7, hv⟩ := z_nv hv
    refine lv_iinc (v := x3_7) (lv' := [(3, .int x3_7), (0, .ref (a 4 99)), (1, .int x1), (2, .int x2)]) hx hb dX4_runJobs_48 hl (k := 3) rfl (by rw [ex3_7]; rfl) (by decide) rfl (fun ls hl => ?_)
    refine lv_goto (tgt := 19) hx hb dX4_runJobs_51 (by decide) ?_
    exact hJ19 _ _ _ _ _ _ _ hv Y (lv_sub hl [1, 2, 3, 0] rfl)

end
set_option maxHeartbeats 4000000 in
set_option maxRecDepth 100000 in
theorem k_X4_runJobs (l : Launch) {D : va_G} {cI cZ cJ : ClassId} {a : Nat → Nat → Nat} {Q1 : Int32 → zSt → Prop} {u4 : zSt} (I7 : Nat → Int32 → Int32 → zSt → Prop) (I19 : Nat → Int32 → Int32 → Int32 → zSt → Prop)
    (hv : wp_X4_runJobs_0 (fun x1 x2 u4 => ∃ n : Nat, I7 n x1 x2 u4) (fun x1 x2 x3 u4 => ∃ n : Nat, I19 n x1 x2 x3 u4) Q1  u4)
    (hI7 : ∀ (n : Nat) (x1 : Int32) (x2 : Int32) (u4 : zSt), I7 n x1 x2 u4 → wp_X4_runJobs_7 (fun x1 x2 u4 => ∃ k : Nat, k < n ∧ I7 k x1 x2 u4) (fun x1 x2 x3 u4 => ∃ k : Nat, k < n ∧ I19 k x1 x2 x3 u4) Q1 x1 x2 u4)
    (hI19 : ∀ (n : Nat) (x1 : Int32) (x2 : Int32) (x3 : Int32) (u4 : zSt), I19 n x1 x2 x3 u4 → wp_X4_runJobs_19 (fun x1 x2 u4 => ∃ k : Nat, k < n ∧ I7 k x1 x2 u4) (fun x1 x2 x3 u4 => ∃ k : Nat, k < n ∧ I19 k x1 x2 x3 u4) Q1 x1 x2 x3 u4) : zMI l yX4_runJobs wsX4_runJobs ({ frames := 3, cells := 0, slots := 0, locals := 75 } : Room) D cI cZ cJ [.ref (a 4 99)] (k4 a cI cZ u4) (fun u : zSt => k4 a cI cZ u) Q1 := by
  refine z_ofI (by decide) rfl rfl (Nat.le_of_ble_eq_true rfl) (@fun p e s m args below meth c A Q ls C Y hl hret => ?_)
  have key : ∀ n : Nat, (∀ (x1 : Int32) (x2 : Int32) (u4 : zSt) (H : Heap) (locs : List Loc) (ls : Array Slot), I7 n x1 x2 u4 → zDy D A s.heap (k4 a cI cZ u4) H locs → lv_has ls 4 [(0, .ref (a 4 99)), (1, .int x1), (2, .int x2)] → W p l e ({ frames := 3, cells := 0, slots := 0, locals := 75 } : Room) s m args below meth c H locs 0 0 Q (F0 m 7 ls [])) ∧ (∀ (x1 : Int32) (x2 : Int32) (x3 : Int32) (u4 : zSt) (H : Heap) (locs : List Loc) (ls : Array Slot), I19 n x1 x2 x3 u4 → zDy D A s.heap (k4 a cI cZ u4) H locs → lv_has ls 4 [(0, .ref (a 4 99)), (1, .int x1), (2, .int x2), (3, .int x3)] → W p l e ({ frames := 3, cells := 0, slots := 0, locals := 75 } : Room) s m args below meth c H locs 0 0 Q (F0 m 19 ls [])) := by
    intro n
    induction n using Nat.strongRecOn with
    | _ n ih =>
      exact ⟨fun x1 x2 u4 H locs ls hi Y hl => bk_X4_runJobs_7 C Y hl hret (fun y0 y1 y2 H locs ls hi Y hl => by obtain ⟨k, hk, hi⟩ := hi; exact (ih k hk).1 y0 y1 y2 H locs ls hi Y hl) (fun y0 y1 y2 y3 H locs ls hi Y hl => by obtain ⟨k, hk, hi⟩ := hi; exact (ih k hk).2 y0 y1 y2 y3 H locs ls hi Y hl) (hI7 n x1 x2 u4 hi), fun x1 x2 x3 u4 H locs ls hi Y hl => bk_X4_runJobs_19 C Y hl hret (fun y0 y1 y2 H locs ls hi Y hl => by obtain ⟨k, hk, hi⟩ := hi; exact (ih k hk).1 y0 y1 y2 H locs ls hi Y hl) (fun y0 y1 y2 y3 H locs ls hi Y hl => by obtain ⟨k, hk, hi⟩ := hi; exact (ih k hk).2 y0 y1 y2 y3 H locs ls hi Y hl) (hI19 n x1 x2 x3 u4 hi)⟩
  exact bk_X4_runJobs_0 C Y hl hret (fun y0 y1 y2 H locs ls hi Y hl => by obtain ⟨n, hi⟩ := hi; exact (key n).1 y0 y1 y2 H locs ls hi Y hl) (fun y0 y1 y2 y3 H locs ls hi Y hl => by obtain ⟨n, hi⟩ := hi; exact (key n).2 y0 y1 y2 y3 H locs ls hi Y hl) hv
def TX4_runJobs (Q1 : Int32 → zSt → Prop) (u4 : zSt) : Prop :=
  ∃ I7 : Nat → Int32 → Int32 → zSt → Prop, ∃ I19 : Nat → Int32 → Int32 → Int32 → zSt → Prop, (wp_X4_runJobs_0 (fun x1 x2 u4 => ∃ n : Nat, I7 n x1 x2 u4) (fun x1 x2 x3 u4 => ∃ n : Nat, I19 n x1 x2 x3 u4) Q1  u4) ∧ (∀ (n : Nat) (x1 : Int32) (x2 : Int32) (u4 : zSt), I7 n x1 x2 u4 → wp_X4_runJobs_7 (fun x1 x2 u4 => ∃ k : Nat, k < n ∧ I7 k x1 x2 u4) (fun x1 x2 x3 u4 => ∃ k : Nat, k < n ∧ I19 k x1 x2 x3 u4) Q1 x1 x2 u4) ∧ (∀ (n : Nat) (x1 : Int32) (x2 : Int32) (x3 : Int32) (u4 : zSt), I19 n x1 x2 x3 u4 → wp_X4_runJobs_19 (fun x1 x2 u4 => ∃ k : Nat, k < n ∧ I7 k x1 x2 u4) (fun x1 x2 x3 u4 => ∃ k : Nat, k < n ∧ I19 k x1 x2 x3 u4) Q1 x1 x2 x3 u4)
set_option maxHeartbeats 4000000 in
set_option maxRecDepth 100000 in
theorem c_X4_runJobs (l : Launch) {D : va_G} {cI cZ cJ : ClassId} {a : Nat → Nat → Nat} {Q1 : Int32 → zSt → Prop} {u4 : zSt} (hv : TX4_runJobs Q1  u4) : zMI l yX4_runJobs wsX4_runJobs ({ frames := 3, cells := 0, slots := 0, locals := 75 } : Room) D cI cZ cJ [.ref (a 4 99)] (k4 a cI cZ u4) (fun u : zSt => k4 a cI cZ u) Q1 := by
  obtain ⟨I7, I19, hv, hI7, hI19⟩ := hv
  exact k_X4_runJobs l I7 I19 hv hI7 hI19


