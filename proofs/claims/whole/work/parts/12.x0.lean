theorem in_X0_firstUnexplained_0 : ∀ w ∈ wsX00, w ∈ wsX0_firstUnexplained := by first | exact fun w h => List.mem_cons_of_mem _ (List.mem_append_right _ h) | exact fun w h => List.mem_cons_of_mem _ (List.mem_append_left _ (List.mem_append_right _ h)) | decide +kernel
theorem fl_X0_firstUnexplained_9 : Cond.fieldLink RX0 9 (TX0 3).1 (TX0 3).2.1 (TX0 3).2.2.1 ∈ wsX0_firstUnexplained := by decide +kernel
theorem fl_X0_firstUnexplained_39 : Cond.fieldLink RX0 39 (TX0 4).1 (TX0 4).2.1 (TX0 4).2.2.1 ∈ wsX0_firstUnexplained := by decide +kernel
section
variable {p : Program} {l : Launch} {e : Env} {s : State} {m : MethodId} {args : Array Value} {below : List Frame} {meth : Method} {c : Code} {H : Heap} {locs : List Loc} {Q : State → Prop} {D : va_G} {cI cZ cJ : ClassId} {A : Nat → Prop} {ls : Array Slot}
def wp_X0_firstUnexplained_0 (J2 : Int32 → Int32 → zSt → Prop) (Q1 : Int32 → zSt → Prop) (p1 : Int32) (u0 : zSt) : Prop :=
  ∀ x2_1 : Int32, x2_1 = 0 → J2 p1 x2_1 u0

set_option maxHeartbeats 4000000 in
set_option maxRecDepth 100000 in
theorem bk_X0_firstUnexplained_0 {a : Nat → Nat → Nat} {J2 : Int32 → Int32 → zSt → Prop} {Q1 : Int32 → zSt → Prop} {p1 : Int32} {u0 : zSt} (C : zCx p s m args c cX0_firstUnexplained 3 RX0 wsX0_firstUnexplained D cI cZ cJ A) (Y : zDy D A s.heap (k0 a cI cZ u0) H locs) (hl : lv_has ls 3 [(0, .ref (a 0 99)), (1, .int p1)]) (hret : ∀ {pc : Nat} {H : Heap} {locs : List Loc} {ls : Array Slot} {r : Int32} {u : zSt}, zDy D A s.heap ((fun u : zSt => k0 a cI cZ u) u) H locs → Q1 r u → decode cX0_firstUnexplained pc = .ok (.ireturn, 1) → W p l e ({ frames := 0, cells := 0, slots := 0, locals := 0 } : Room) s m args below meth c H locs 0 0 Q (F0 m pc ls [.int r])) (hJ2 : ∀ (x1 : Int32) (x2 : Int32) (u0 : zSt) (H : Heap) (locs : List Loc) (ls : Array Slot), J2 x1 x2 u0 → zDy D A s.heap (k0 a cI cZ u0) H locs → lv_has ls 3 [(0, .ref (a 0 99)), (1, .int x1), (2, .int x2)] → W p l e ({ frames := 0, cells := 0, slots := 0, locals := 0 } : Room) s m args below meth c H locs 0 0 Q (F0 m 2 ls [])) (hv : wp_X0_firstUnexplained_0 J2 Q1 p1 u0) : W p l e ({ frames := 0, cells := 0, slots := 0, locals := 0 } : Room) s m args below meth c H locs 0 0 Q (F0 m 0 ls []) := by
  unfold wp_X0_firstUnexplained_0 at hv
  obtain ⟨hx, hb, hml, hown, hts, hK, hA⟩ := id C
  refine lv_iconst (v := 0) hx hb dX0_firstUnexplained_0 (by decide) ?_
  refine z_topi hv (fun x2_1 ex2_1 hv => ?_)
  refine lv_istore_n (lv' := [(2, .int x2_1), (0, .ref (a 0 99)), (1, .int p1)]) hx hb dX0_firstUnexplained_1 rfl hl (by decide) rfl (fun ls hl => ?_)
  exact hJ2 _ _ _ _ _ _ hv Y (lv_sub hl [1, 2, 0] rfl)

def wp_X0_firstUnexplained_2 (J2 : Int32 → Int32 → zSt → Prop) (Q1 : Int32 → zSt → Prop) (x1 : Int32) (x2 : Int32) (u0 : zSt) : Prop :=
  ((u0.1 4) ≤ x2 → Q1 (-1) u0) ∧ (¬ (u0.1 4) ≤ x2 → vp_in x2 60 ∧ ((((u0.2 3 x2.toNatClampNeg) &&& x1) = (0 : Int32) → vp_in x2 60 ∧ (Q1 (u0.2 3 x2.toNatClampNeg) u0)) ∧ (¬ ((u0.2 3 x2.toNatClampNeg) &&& x1) = (0 : Int32) → ∀ x2_1 : Int32, x2_1 = x2 + 1 → J2 x1 x2_1 u0)))

set_option maxHeartbeats 4000000 in
set_option maxRecDepth 100000 in
theorem bk_X0_firstUnexplained_2 {a : Nat → Nat → Nat} {J2 : Int32 → Int32 → zSt → Prop} {Q1 : Int32 → zSt → Prop} {x1 : Int32} {x2 : Int32} {u0 : zSt} (C : zCx p s m args c cX0_firstUnexplained 3 RX0 wsX0_firstUnexplained D cI cZ cJ A) (Y : zDy D A s.heap (k0 a cI cZ u0) H locs) (hl : lv_has ls 3 [(0, .ref (a 0 99)), (1, .int x1), (2, .int x2)]) (hret : ∀ {pc : Nat} {H : Heap} {locs : List Loc} {ls : Array Slot} {r : Int32} {u : zSt}, zDy D A s.heap ((fun u : zSt => k0 a cI cZ u) u) H locs → Q1 r u → decode cX0_firstUnexplained pc = .ok (.ireturn, 1) → W p l e ({ frames := 0, cells := 0, slots := 0, locals := 0 } : Room) s m args below meth c H locs 0 0 Q (F0 m pc ls [.int r])) (hJ2 : ∀ (x1 : Int32) (x2 : Int32) (u0 : zSt) (H : Heap) (locs : List Loc) (ls : Array Slot), J2 x1 x2 u0 → zDy D A s.heap (k0 a cI cZ u0) H locs → lv_has ls 3 [(0, .ref (a 0 99)), (1, .int x1), (2, .int x2)] → W p l e ({ frames := 0, cells := 0, slots := 0, locals := 0 } : Room) s m args below meth c H locs 0 0 Q (F0 m 2 ls [])) (hv : wp_X0_firstUnexplained_2 J2 Q1 x1 x2 u0) : W p l e ({ frames := 0, cells := 0, slots := 0, locals := 0 } : Room) s m args below meth c H locs 0 0 Q (F0 m 2 ls []) := by
  unfold wp_X0_firstUnexplained_2 at hv
  obtain ⟨hx, hb, hml, hown, hts, hK, hA⟩ := id C
  refine lv_iload_n hx hb dX0_firstUnexplained_2 rfl (lv_at hl 2 rfl) ?_
  refine lv_aload_n hx hb dX0_firstUnexplained_3 rfl (lv_at hl 0 rfl) ?_
  refine z_get C Y (Cn := RX0) (T := TX0) (N := 5) in_X0_firstUnexplained_0 rfl (ge0_0 ..) 4 (by decide) fl_X0_firstUnexplained_39 rfl dX0_firstUnexplained_4 ?_
  refine lv_icmp_ge (tgt := 34) hx hb dX0_firstUnexplained_7 (by decide) (fun hc => ?_) (fun hc => ?_)
  · have hv := hv.1 hc
    refine lv_iconst (v := (-1)) hx hb dX0_firstUnexplained_34 (by decide) ?_
    exact hret Y hv dX0_firstUnexplained_35
  · have hv := hv.2 hc
    refine lv_aload_n hx hb dX0_firstUnexplained_10 rfl (lv_at hl 0 rfl) ?_
    refine z_get C Y (Cn := RX0) (T := TX0) (N := 5) in_X0_firstUnexplained_0 rfl (ge0_0 ..) 3 (by decide) fl_X0_firstUnexplained_9 rfl dX0_firstUnexplained_11 ?_
    refine lv_iload_n hx hb dX0_firstUnexplained_14 rfl (lv_at hl 2 rfl) ?_
    obtain ⟨hi, hv⟩ := hv
    refine z_ldI C Y (pa0_0_3 ..) hi dX0_firstUnexplained_15 ?_
    refine lv_iload_n hx hb dX0_firstUnexplained_16 rfl (lv_at hl 1 rfl) ?_
    refine lv_iand hx hb dX0_firstUnexplained_17 ?_
    refine lv_if_ne (tgt := 28) hx hb dX0_firstUnexplained_18 (by decide) (fun hc => ?_) (fun hc => ?_)
    · have hv := hv.2 hc
      obtain ⟨x2_1, ex2_1, hv⟩ := z_nv hv
      refine lv_iinc (v := x2_1) (lv' := [(2, .int x2_1), (0, .ref (a 0 99)), (1, .int x1)]) hx hb dX0_firstUnexplained_28 hl (k := 2) rfl (by rw [ex2_1]; rfl) (by decide) rfl (fun ls hl => ?_)
      refine lv_goto (tgt := 2) hx hb dX0_firstUnexplained_31 (by decide) ?_
      exact hJ2 _ _ _ _ _ _ hv Y (lv_sub hl [1, 2, 0] rfl)
    · have hv := hv.1 hc
      refine lv_aload_n hx hb dX0_firstUnexplained_21 rfl (lv_at hl 0 rfl) ?_
      refine z_get C Y (Cn := RX0) (T := TX0) (N := 5) in_X0_firstUnexplained_0 rfl (ge0_0 ..) 3 (by decide) fl_X0_firstUnexplained_9 rfl dX0_firstUnexplained_22 ?_
      refine lv_iload_n hx hb dX0_firstUnexplained_25 rfl (lv_at hl 2 rfl) ?_
      obtain ⟨hi, hv⟩ := hv
      refine z_ldI C Y (pa0_0_3 ..) hi dX0_firstUnexplained_26 ?_
      exact hret Y hv dX0_firstUnexplained_27

end
set_option maxHeartbeats 4000000 in
set_option maxRecDepth 100000 in
theorem k_X0_firstUnexplained (l : Launch) {D : va_G} {cI cZ cJ : ClassId} {a : Nat → Nat → Nat} {Q1 : Int32 → zSt → Prop} {p1 : Int32} {u0 : zSt} (I2 : Nat → Int32 → Int32 → zSt → Prop)
    (hv : wp_X0_firstUnexplained_0 (fun x1 x2 u0 => ∃ n : Nat, I2 n x1 x2 u0) Q1 p1 u0)
    (hI2 : ∀ (n : Nat) (x1 : Int32) (x2 : Int32) (u0 : zSt), I2 n x1 x2 u0 → wp_X0_firstUnexplained_2 (fun x1 x2 u0 => ∃ k : Nat, k < n ∧ I2 k x1 x2 u0) Q1 x1 x2 u0) : zMI l yX0_firstUnexplained wsX0_firstUnexplained ({ frames := 0, cells := 0, slots := 0, locals := 0 } : Room) D cI cZ cJ [.ref (a 0 99), .int p1] (k0 a cI cZ u0) (fun u : zSt => k0 a cI cZ u) Q1 := by
  refine z_ofI (by decide) rfl rfl (Nat.le_of_ble_eq_true rfl) (@fun p e s m args below meth c A Q ls C Y hl hret => ?_)
  have key : ∀ n : Nat, (∀ (x1 : Int32) (x2 : Int32) (u0 : zSt) (H : Heap) (locs : List Loc) (ls : Array Slot), I2 n x1 x2 u0 → zDy D A s.heap (k0 a cI cZ u0) H locs → lv_has ls 3 [(0, .ref (a 0 99)), (1, .int x1), (2, .int x2)] → W p l e ({ frames := 0, cells := 0, slots := 0, locals := 0 } : Room) s m args below meth c H locs 0 0 Q (F0 m 2 ls [])) := by
    intro n
    induction n using Nat.strongRecOn with
    | _ n ih =>
      exact fun x1 x2 u0 H locs ls hi Y hl => bk_X0_firstUnexplained_2 C Y hl hret (fun y0 y1 y2 H locs ls hi Y hl => by obtain ⟨k, hk, hi⟩ := hi; exact (ih k hk) y0 y1 y2 H locs ls hi Y hl) (hI2 n x1 x2 u0 hi)
  exact bk_X0_firstUnexplained_0 C Y hl hret (fun y0 y1 y2 H locs ls hi Y hl => by obtain ⟨n, hi⟩ := hi; exact (key n) y0 y1 y2 H locs ls hi Y hl) hv
def TX0_firstUnexplained (Q1 : Int32 → zSt → Prop) (p1 : Int32) (u0 : zSt) : Prop :=
  ∃ I2 : Nat → Int32 → Int32 → zSt → Prop, (wp_X0_firstUnexplained_0 (fun x1 x2 u0 => ∃ n : Nat, I2 n x1 x2 u0) Q1 p1 u0) ∧ (∀ (n : Nat) (x1 : Int32) (x2 : Int32) (u0 : zSt), I2 n x1 x2 u0 → wp_X0_firstUnexplained_2 (fun x1 x2 u0 => ∃ k : Nat, k < n ∧ I2 k x1 x2 u0) Q1 x1 x2 u0)
set_option maxHeartbeats 4000000 in
set_option maxRecDepth 100000 in
theorem c_X0_firstUnexplained (l : Launch) {D : va_G} {cI cZ cJ : ClassId} {a : Nat → Nat → Nat} {Q1 : Int32 → zSt → Prop} {p1 : Int32} {u0 : zSt} (hv : TX0_firstUnexplained Q1 p1 u0) : zMI l yX0_firstUnexplained wsX0_firstUnexplained ({ frames := 0, cells := 0, slots := 0, locals := 0 } : Room) D cI cZ cJ [.ref (a 0 99), .int p1] (k0 a cI cZ u0) (fun u : zSt => k0 a cI cZ u) Q1 := by
  obtain ⟨I2, hv, hI2⟩ := hv
  exact k_X0_firstUnexplained l I2 hv hI2


theorem in_X0_keep_0 : ∀ w ∈ wsX00, w ∈ wsX0_keep := by first | exact fun w h => List.mem_cons_of_mem _ (List.mem_append_right _ h) | exact fun w h => List.mem_cons_of_mem _ (List.mem_append_left _ (List.mem_append_right _ h)) | decide +kernel
theorem fl_X0_keep_15 : Cond.fieldLink RX0 15 (TX0 0).1 (TX0 0).2.1 (TX0 0).2.2.1 ∈ wsX0_keep := by decide +kernel
theorem fl_X0_keep_19 : Cond.fieldLink RX0 19 (TX0 1).1 (TX0 1).2.1 (TX0 1).2.2.1 ∈ wsX0_keep := by decide +kernel
theorem fl_X0_keep_22 : Cond.fieldLink RX0 22 (TX0 2).1 (TX0 2).2.1 (TX0 2).2.2.1 ∈ wsX0_keep := by decide +kernel
section
variable {p : Program} {l : Launch} {e : Env} {s : State} {m : MethodId} {args : Array Value} {below : List Frame} {meth : Method} {c : Code} {H : Heap} {locs : List Loc} {Q : State → Prop} {D : va_G} {cI cZ cJ : ClassId} {A : Nat → Prop} {ls : Array Slot}
def wp_X0_keep_16 (Q1 : zSt → Prop) (x1 : Int32) (x2 : Int32) (u0 : zSt) : Prop :=
  ∀ u0_1 : zSt, u0_1 = zI u0 0 x2 → ∀ u0_2 : zSt, u0_2 = zI u0_1 1 1 → ∀ u0_3 : zSt, u0_3 = zI u0_2 2 x1 → Q1 u0_3

set_option maxHeartbeats 4000000 in
set_option maxRecDepth 100000 in
theorem bk_X0_keep_16 {a : Nat → Nat → Nat} {Q1 : zSt → Prop} {x1 : Int32} {x2 : Int32} {u0 : zSt} (C : zCx p s m args c cX0_keep 3 RX0 wsX0_keep D cI cZ cJ A) (Y : zDy D A s.heap (k0 a cI cZ u0) H locs) (hl : lv_has ls 3 [(0, .ref (a 0 99)), (1, .int x1), (2, .int x2)]) (hret : ∀ {pc : Nat} {H : Heap} {locs : List Loc} {ls : Array Slot} {u : zSt}, zDy D A s.heap ((fun u : zSt => k0 a cI cZ u) u) H locs → Q1 u → decode cX0_keep pc = .ok (.return_, 1) → W p l e ({ frames := 0, cells := 0, slots := 0, locals := 0 } : Room) s m args below meth c H locs 0 0 Q (F0 m pc ls [])) (hv : wp_X0_keep_16 Q1 x1 x2 u0) : W p l e ({ frames := 0, cells := 0, slots := 0, locals := 0 } : Room) s m args below meth c H locs 0 0 Q (F0 m 16 ls []) := by
  unfold wp_X0_keep_16 at hv
  obtain ⟨hx, hb, hml, hown, hts, hK, hA⟩ := id C
  refine lv_aload_n hx hb dX0_keep_16 rfl (lv_at hl 0 rfl) ?_
  refine lv_iload_n hx hb dX0_keep_17 rfl (lv_at hl 2 rfl) ?_
  refine z_putI C Y (Cn := RX0) (T := TX0) (N := 5) in_X0_keep_0 rfl tyX0 tyX0_ok nmX0 (ge0_0 ..) 0 (by decide) fl_X0_keep_15 rfl (by decide +kernel) (Nat.le_of_ble_eq_true rfl) (si0_0_0 ..) dX0_keep_18 (fun H locs Y => ?_)
  obtain ⟨u0_1, eu0_1, Y, hv⟩ := z_nm (kf := fun z => (k0 a cI cZ z)) Y hv
  refine lv_aload_n hx hb dX0_keep_21 rfl (lv_at hl 0 rfl) ?_
  refine lv_iconst (v := 1) hx hb dX0_keep_22 (by decide) ?_
  refine z_putI C Y (Cn := RX0) (T := TX0) (N := 5) in_X0_keep_0 rfl tyX0 tyX0_ok nmX0 (ge0_0 ..) 1 (by decide) fl_X0_keep_19 rfl (by decide +kernel) (Nat.le_of_ble_eq_true rfl) (si0_0_1 ..) dX0_keep_23 (fun H locs Y => ?_)
  obtain ⟨u0_2, eu0_2, Y, hv⟩ := z_nm (kf := fun z => (k0 a cI cZ z)) Y hv
  refine lv_aload_n hx hb dX0_keep_26 rfl (lv_at hl 0 rfl) ?_
  refine lv_iload_n hx hb dX0_keep_27 rfl (lv_at hl 1 rfl) ?_
  refine z_putI C Y (Cn := RX0) (T := TX0) (N := 5) in_X0_keep_0 rfl tyX0 tyX0_ok nmX0 (ge0_0 ..) 2 (by decide) fl_X0_keep_22 rfl (by decide +kernel) (Nat.le_of_ble_eq_true rfl) (si0_0_2 ..) dX0_keep_28 (fun H locs Y => ?_)
  obtain ⟨u0_3, eu0_3, Y, hv⟩ := z_nm (kf := fun z => (k0 a cI cZ z)) Y hv
  refine lv_goto (tgt := 62) hx hb dX0_keep_31 (by decide) ?_
  exact hret Y hv dX0_keep_62

def wp_X0_keep_0 (Q1 : zSt → Prop) (p1 : Int32) (p2 : Int32) (u0 : zSt) : Prop :=
  ((u0.1 0) = (-1 : Int32) → wp_X0_keep_16 Q1 p1 p2 u0) ∧ (¬ (u0.1 0) = (-1 : Int32) → ((u0.1 0) ≤ p2 → (p2 = (u0.1 0) → ∀ u0_1 : zSt, u0_1 = zI u0 1 ((u0.1 1) + 1) → ∀ u0_2 : zSt, u0_2 = zI u0_1 2 ((u0_1.1 2) &&& p1) → Q1 u0_2) ∧ (¬ p2 = (u0.1 0) → Q1 u0)) ∧ (¬ (u0.1 0) ≤ p2 → wp_X0_keep_16 Q1 p1 p2 u0))

set_option maxHeartbeats 4000000 in
set_option maxRecDepth 100000 in
theorem bk_X0_keep_0 {a : Nat → Nat → Nat} {Q1 : zSt → Prop} {p1 : Int32} {p2 : Int32} {u0 : zSt} (C : zCx p s m args c cX0_keep 3 RX0 wsX0_keep D cI cZ cJ A) (Y : zDy D A s.heap (k0 a cI cZ u0) H locs) (hl : lv_has ls 3 [(0, .ref (a 0 99)), (1, .int p1), (2, .int p2)]) (hret : ∀ {pc : Nat} {H : Heap} {locs : List Loc} {ls : Array Slot} {u : zSt}, zDy D A s.heap ((fun u : zSt => k0 a cI cZ u) u) H locs → Q1 u → decode cX0_keep pc = .ok (.return_, 1) → W p l e ({ frames := 0, cells := 0, slots := 0, locals := 0 } : Room) s m args below meth c H locs 0 0 Q (F0 m pc ls [])) (hv : wp_X0_keep_0 Q1 p1 p2 u0) : W p l e ({ frames := 0, cells := 0, slots := 0, locals := 0 } : Room) s m args below meth c H locs 0 0 Q (F0 m 0 ls []) := by
  unfold wp_X0_keep_0 at hv
  obtain ⟨hx, hb, hml, hown, hts, hK, hA⟩ := id C
  refine lv_aload_n hx hb dX0_keep_0 rfl (lv_at hl 0 rfl) ?_
  refine z_get C Y (Cn := RX0) (T := TX0) (N := 5) in_X0_keep_0 rfl (ge0_0 ..) 0 (by decide) fl_X0_keep_15 rfl dX0_keep_1 ?_
  refine lv_iconst (v := (-1)) hx hb dX0_keep_4 (by decide) ?_
  refine lv_icmp_eq (tgt := 16) hx hb dX0_keep_5 (by decide) (fun hc => ?_) (fun hc => ?_)
  · have hv := hv.1 hc
    exact bk_X0_keep_16 C Y (lv_sub hl [0, 1, 2] rfl) hret hv
  · have hv := hv.2 hc
    refine lv_iload_n hx hb dX0_keep_8 rfl (lv_at hl 2 rfl) ?_
    refine lv_aload_n hx hb dX0_keep_9 rfl (lv_at hl 0 rfl) ?_
    refine z_get C Y (Cn := RX0) (T := TX0) (N := 5) in_X0_keep_0 rfl (ge0_0 ..) 0 (by decide) fl_X0_keep_15 rfl dX0_keep_10 ?_
    refine lv_icmp_ge (tgt := 34) hx hb dX0_keep_13 (by decide) (fun hc => ?_) (fun hc => ?_)
    · have hv := hv.1 hc
      refine lv_iload_n hx hb dX0_keep_34 rfl (lv_at hl 2 rfl) ?_
      refine lv_aload_n hx hb dX0_keep_35 rfl (lv_at hl 0 rfl) ?_
      refine z_get C Y (Cn := RX0) (T := TX0) (N := 5) in_X0_keep_0 rfl (ge0_0 ..) 0 (by decide) fl_X0_keep_15 rfl dX0_keep_36 ?_
      refine lv_icmp_ne (tgt := 62) hx hb dX0_keep_39 (by decide) (fun hc => ?_) (fun hc => ?_)
      · have hv := hv.2 hc
        exact hret Y hv dX0_keep_62
      · have hv := hv.1 hc
        refine lv_aload_n hx hb dX0_keep_42 rfl (lv_at hl 0 rfl) ?_
        refine lv_dup hx hb dX0_keep_43 rfl ?_
        refine z_get C Y (Cn := RX0) (T := TX0) (N := 5) in_X0_keep_0 rfl (ge0_0 ..) 1 (by decide) fl_X0_keep_19 rfl dX0_keep_44 ?_
        refine lv_iconst (v := 1) hx hb dX0_keep_47 (by decide) ?_
        refine lv_iadd hx hb dX0_keep_48 ?_
        refine z_putI C Y (Cn := RX0) (T := TX0) (N := 5) in_X0_keep_0 rfl tyX0 tyX0_ok nmX0 (ge0_0 ..) 1 (by decide) fl_X0_keep_19 rfl (by decide +kernel) (Nat.le_of_ble_eq_true rfl) (si0_0_1 ..) dX0_keep_49 (fun H locs Y => ?_)
        obtain ⟨u0_1, eu0_1, Y, hv⟩ := z_nm (kf := fun z => (k0 a cI cZ z)) Y hv
        refine lv_aload_n hx hb dX0_keep_52 rfl (lv_at hl 0 rfl) ?_
        refine lv_dup hx hb dX0_keep_53 rfl ?_
        refine z_get C Y (Cn := RX0) (T := TX0) (N := 5) in_X0_keep_0 rfl (ge0_0 ..) 2 (by decide) fl_X0_keep_22 rfl dX0_keep_54 ?_
        refine lv_iload_n hx hb dX0_keep_57 rfl (lv_at hl 1 rfl) ?_
        refine lv_iand hx hb dX0_keep_58 ?_
        refine z_putI C Y (Cn := RX0) (T := TX0) (N := 5) in_X0_keep_0 rfl tyX0 tyX0_ok nmX0 (ge0_0 ..) 2 (by decide) fl_X0_keep_22 rfl (by decide +kernel) (Nat.le_of_ble_eq_true rfl) (si0_0_2 ..) dX0_keep_59 (fun H locs Y => ?_)
        obtain ⟨u0_2, eu0_2, Y, hv⟩ := z_nm (kf := fun z => (k0 a cI cZ z)) Y hv
        exact hret Y hv dX0_keep_62
    · have hv := hv.2 hc
      exact bk_X0_keep_16 C Y (lv_sub hl [0, 1, 2] rfl) hret hv

end
abbrev TX0_keep := wp_X0_keep_0
set_option maxHeartbeats 4000000 in
set_option maxRecDepth 100000 in
theorem c_X0_keep (l : Launch) {D : va_G} {cI cZ cJ : ClassId} {a : Nat → Nat → Nat} {Q1 : zSt → Prop} {p1 : Int32} {p2 : Int32} {u0 : zSt} (hv : wp_X0_keep_0 Q1 p1 p2 u0) : zMV l yX0_keep wsX0_keep ({ frames := 0, cells := 0, slots := 0, locals := 0 } : Room) D cI cZ cJ [.ref (a 0 99), .int p1, .int p2] (k0 a cI cZ u0) (fun u : zSt => k0 a cI cZ u) Q1 :=
  z_ofV (by decide) rfl rfl (Nat.le_of_ble_eq_true rfl) (fun C Y hl hret => bk_X0_keep_0 C Y hl hret hv)


theorem in_X0_blameMore_0 : ∀ w ∈ wsX00, w ∈ wsX0_blameMore := by first | exact fun w h => List.mem_cons_of_mem _ (List.mem_append_right _ h) | exact fun w h => List.mem_cons_of_mem _ (List.mem_append_left _ (List.mem_append_right _ h)) | decide +kernel
theorem fl_X0_blameMore_15 : Cond.fieldLink RX0 15 (TX0 0).1 (TX0 0).2.1 (TX0 0).2.2.1 ∈ wsX0_blameMore := by decide +kernel
section
variable {p : Program} {l : Launch} {e : Env} {s : State} {m : MethodId} {args : Array Value} {below : List Frame} {meth : Method} {c : Code} {H : Heap} {locs : List Loc} {Q : State → Prop} {D : va_G} {cI cZ cJ : ClassId} {A : Nat → Prop} {ls : Array Slot}
def wp_X0_blameMore_44 (TX0_blameEach : (zSt → Prop) → Int32 → Int32 → Int32 → Int32 → zSt → Prop) (Q1 : zSt → Prop) (x1 : Int32) (x2 : Int32) (x3 : Int32) (x4 : Int32) (u0 : zSt) : Prop :=
  TX0_blameEach (fun (u0_1 : zSt) => Q1 u0_1) x4 x1 x2 x3 u0

set_option maxHeartbeats 4000000 in
set_option maxRecDepth 100000 in
theorem bk_X0_blameMore_44 {d : Nat} {a : Nat → Nat → Nat} {TX0_blameEach : (zSt → Prop) → Int32 → Int32 → Int32 → Int32 → zSt → Prop} {Q1 : zSt → Prop} {x1 : Int32} {x2 : Int32} {x3 : Int32} {x4 : Int32} {u0 : zSt} (C : zCx p s m args c cX0_blameMore 5 RX0 wsX0_blameMore D cI cZ cJ A) (Y : zDy D A s.heap (k0 a cI cZ u0) H locs) (hl : lv_has ls 5 [(0, .ref (a 0 99)), (1, .int x1), (2, .int x2), (3, .int x3), (4, .int x4)]) (hr_X0_blameEach : (∀ (Q1 : zSt → Prop) (p1 : Int32) (p2 : Int32) (p3 : Int32) (p4 : Int32) (u0 : zSt), TX0_blameEach Q1 p1 p2 p3 p4 u0 → zMV l yX0_blameEach wsX0_blameEach (rmP d) D cI cZ cJ [.ref (a 0 99), .int p1, .int p2, .int p3, .int p4] (k0 a cI cZ u0) (fun u : zSt => k0 a cI cZ u) Q1)) (hret : ∀ {pc : Nat} {H : Heap} {locs : List Loc} {ls : Array Slot} {u : zSt}, zDy D A s.heap ((fun u : zSt => k0 a cI cZ u) u) H locs → Q1 u → decode cX0_blameMore pc = .ok (.return_, 1) → W p l e (rmC (d + 1)) s m args below meth c H locs 0 0 Q (F0 m pc ls [])) (hv : wp_X0_blameMore_44 TX0_blameEach Q1 x1 x2 x3 x4 u0) : W p l e (rmC (d + 1)) s m args below meth c H locs 0 0 Q (F0 m 44 ls []) := by
  unfold wp_X0_blameMore_44 at hv
  obtain ⟨hx, hb, hml, hown, hts, hK, hA⟩ := id C
  refine lv_aload_n hx hb dX0_blameMore_44 rfl (lv_at hl 0 rfl) ?_
  refine lv_iload hx hb dX0_blameMore_45 (lv_at hl 4 rfl) ?_
  refine lv_iload_n hx hb dX0_blameMore_47 rfl (lv_at hl 1 rfl) ?_
  refine lv_iload_n hx hb dX0_blameMore_48 rfl (lv_at hl 2 rfl) ?_
  refine lv_iload_n hx hb dX0_blameMore_49 rfl (lv_at hl 3 rfl) ?_
  refine z_callVv C Y (hr_X0_blameEach _ _ _ _ _ _ hv) (zFr.self _ _) (cwV 4 hts gX0_blameMore_X0_blameEach rfl rfl rfl (by decide +kernel) ⟨(by first | exact Nat.le_of_ble_eq_true rfl | (simp only [rmC, rmP, rmG, List.map, List.sum_cons, List.sum_nil, Value.category]; omega)), (by first | exact Nat.le_of_ble_eq_true rfl | (simp only [rmC, rmP, rmG, List.map, List.sum_cons, List.sum_nil, Value.category]; omega))⟩) (ge0_0 ..) rfl rfl rfl hl.1 rfl (Nat.le_of_ble_eq_true rfl) dX0_blameMore_50 ⟨Nat.zero_le _, Nat.zero_le _⟩ (fun u0_1 H locs Y hv => ?_)
  exact hret Y hv dX0_blameMore_53

def wp_X0_blameMore_0 (TX0_blameEach : (zSt → Prop) → Int32 → Int32 → Int32 → Int32 → zSt → Prop) (Q1 : zSt → Prop) (p1 : Int32) (p2 : Int32) (p3 : Int32) (u0 : zSt) : Prop :=
  TX0_firstUnexplained (fun (r_2 : Int32) (u0_1 : zSt) => ∀ x4_3 : Int32, x4_3 = r_2 → (x4_3 = (-1 : Int32) → TX0_keep (fun (u0_4 : zSt) => Q1 u0_4) p1 p3 u0_1) ∧ (¬ x4_3 = (-1 : Int32) → ((12 : Int32) ≤ p3 → Q1 u0_1) ∧ (¬ (12 : Int32) ≤ p3 → ((u0_1.1 0) = (-1 : Int32) → wp_X0_blameMore_44 TX0_blameEach Q1 p1 p2 p3 x4_3 u0_1) ∧ (¬ (u0_1.1 0) = (-1 : Int32) → ((u0_1.1 0) ≤ p3 → Q1 u0_1) ∧ (¬ (u0_1.1 0) ≤ p3 → wp_X0_blameMore_44 TX0_blameEach Q1 p1 p2 p3 x4_3 u0_1))))) p1 u0

set_option maxHeartbeats 4000000 in
set_option maxRecDepth 100000 in
theorem bk_X0_blameMore_0 {d : Nat} {a : Nat → Nat → Nat} {TX0_blameEach : (zSt → Prop) → Int32 → Int32 → Int32 → Int32 → zSt → Prop} {Q1 : zSt → Prop} {p1 : Int32} {p2 : Int32} {p3 : Int32} {u0 : zSt} (C : zCx p s m args c cX0_blameMore 5 RX0 wsX0_blameMore D cI cZ cJ A) (Y : zDy D A s.heap (k0 a cI cZ u0) H locs) (hl : lv_has ls 5 [(0, .ref (a 0 99)), (1, .int p1), (2, .int p2), (3, .int p3)]) (hr_X0_blameEach : (∀ (Q1 : zSt → Prop) (p1 : Int32) (p2 : Int32) (p3 : Int32) (p4 : Int32) (u0 : zSt), TX0_blameEach Q1 p1 p2 p3 p4 u0 → zMV l yX0_blameEach wsX0_blameEach (rmP d) D cI cZ cJ [.ref (a 0 99), .int p1, .int p2, .int p3, .int p4] (k0 a cI cZ u0) (fun u : zSt => k0 a cI cZ u) Q1)) (hret : ∀ {pc : Nat} {H : Heap} {locs : List Loc} {ls : Array Slot} {u : zSt}, zDy D A s.heap ((fun u : zSt => k0 a cI cZ u) u) H locs → Q1 u → decode cX0_blameMore pc = .ok (.return_, 1) → W p l e (rmC (d + 1)) s m args below meth c H locs 0 0 Q (F0 m pc ls [])) (hv : wp_X0_blameMore_0 TX0_blameEach Q1 p1 p2 p3 u0) : W p l e (rmC (d + 1)) s m args below meth c H locs 0 0 Q (F0 m 0 ls []) := by
  unfold wp_X0_blameMore_0 at hv
  obtain ⟨hx, hb, hml, hown, hts, hK, hA⟩ := id C
  refine lv_aload_n hx hb dX0_blameMore_0 rfl (lv_at hl 0 rfl) ?_
  refine lv_iload_n hx hb dX0_blameMore_1 rfl (lv_at hl 1 rfl) ?_
  refine z_callVi C Y (c_X0_firstUnexplained l hv) (zFr.self _ _) (cwV 1 hts gX0_blameMore_X0_firstUnexplained rfl rfl rfl (by decide +kernel) ⟨(by first | exact Nat.le_of_ble_eq_true rfl | (simp only [rmC, rmP, rmG, List.map, List.sum_cons, List.sum_nil, Value.category]; omega)), (by first | exact Nat.le_of_ble_eq_true rfl | (simp only [rmC, rmP, rmG, List.map, List.sum_cons, List.sum_nil, Value.category]; omega))⟩) (ge0_0 ..) rfl rfl rfl hl.1 rfl (Nat.le_of_ble_eq_true rfl) dX0_blameMore_2 ⟨Nat.zero_le _, Nat.zero_le _⟩ (fun r_2 u0_1 H locs Y hv => ?_)
  refine z_topi hv (fun x4_3 ex4_3 hv => ?_)
  refine lv_istore (lv' := [(4, .int x4_3), (0, .ref (a 0 99)), (1, .int p1), (2, .int p2), (3, .int p3)]) hx hb dX0_blameMore_5 hl (by decide) rfl (fun ls hl => ?_)
  refine lv_iload hx hb dX0_blameMore_7 (lv_at hl 0 rfl) ?_
  refine lv_iconst (v := (-1)) hx hb dX0_blameMore_9 (by decide) ?_
  refine lv_icmp_ne (tgt := 22) hx hb dX0_blameMore_10 (by decide) (fun hc => ?_) (fun hc => ?_)
  · have hv := hv.2 hc
    refine lv_iload_n hx hb dX0_blameMore_22 rfl (lv_at hl 4 rfl) ?_
    refine lv_bipush (v := 12) hx hb dX0_blameMore_23 (by decide) ?_
    refine lv_icmp_ge (tgt := 53) hx hb dX0_blameMore_25 (by decide) (fun hc => ?_) (fun hc => ?_)
    · have hv := hv.1 hc
      exact hret Y hv dX0_blameMore_53
    · have hv := hv.2 hc
      refine lv_aload_n hx hb dX0_blameMore_28 rfl (lv_at hl 1 rfl) ?_
      refine z_get C Y (Cn := RX0) (T := TX0) (N := 5) in_X0_blameMore_0 rfl (ge0_0 ..) 0 (by decide) fl_X0_blameMore_15 rfl dX0_blameMore_29 ?_
      refine lv_iconst (v := (-1)) hx hb dX0_blameMore_32 (by decide) ?_
      refine lv_icmp_eq (tgt := 44) hx hb dX0_blameMore_33 (by decide) (fun hc => ?_) (fun hc => ?_)
      · have hv := hv.1 hc
        exact bk_X0_blameMore_44 C Y (lv_sub hl [1, 2, 3, 4, 0] rfl) hr_X0_blameEach hret hv
      · have hv := hv.2 hc
        refine lv_iload_n hx hb dX0_blameMore_36 rfl (lv_at hl 4 rfl) ?_
        refine lv_aload_n hx hb dX0_blameMore_37 rfl (lv_at hl 1 rfl) ?_
        refine z_get C Y (Cn := RX0) (T := TX0) (N := 5) in_X0_blameMore_0 rfl (ge0_0 ..) 0 (by decide) fl_X0_blameMore_15 rfl dX0_blameMore_38 ?_
        refine lv_icmp_ge (tgt := 53) hx hb dX0_blameMore_41 (by decide) (fun hc => ?_) (fun hc => ?_)
        · have hv := hv.1 hc
          exact hret Y hv dX0_blameMore_53
        · have hv := hv.2 hc
          exact bk_X0_blameMore_44 C Y (lv_sub hl [1, 2, 3, 4, 0] rfl) hr_X0_blameEach hret hv
  · have hv := hv.1 hc
    refine lv_aload_n hx hb dX0_blameMore_13 rfl (lv_at hl 1 rfl) ?_
    refine lv_iload_n hx hb dX0_blameMore_14 rfl (lv_at hl 2 rfl) ?_
    refine lv_iload_n hx hb dX0_blameMore_15 rfl (lv_at hl 4 rfl) ?_
    refine z_callVv C Y (c_X0_keep l hv) (zFr.self _ _) (cwV 2 hts gX0_blameMore_X0_keep rfl rfl rfl (by decide +kernel) ⟨(by first | exact Nat.le_of_ble_eq_true rfl | (simp only [rmC, rmP, rmG, List.map, List.sum_cons, List.sum_nil, Value.category]; omega)), (by first | exact Nat.le_of_ble_eq_true rfl | (simp only [rmC, rmP, rmG, List.map, List.sum_cons, List.sum_nil, Value.category]; omega))⟩) (ge0_0 ..) rfl rfl rfl hl.1 rfl (Nat.le_of_ble_eq_true rfl) dX0_blameMore_16 ⟨Nat.zero_le _, Nat.zero_le _⟩ (fun u0_4 H locs Y hv => ?_)
    refine lv_goto (tgt := 53) hx hb dX0_blameMore_19 (by decide) ?_
    exact hret Y hv dX0_blameMore_53

end
set_option maxHeartbeats 4000000 in
set_option maxRecDepth 100000 in
theorem k_X0_blameMore (l : Launch) {d : Nat} {D : va_G} {cI cZ cJ : ClassId} {a : Nat → Nat → Nat} {TX0_blameEach : (zSt → Prop) → Int32 → Int32 → Int32 → Int32 → zSt → Prop} {Q1 : zSt → Prop} {p1 : Int32} {p2 : Int32} {p3 : Int32} {u0 : zSt} (hr_X0_blameEach : (∀ (Q1 : zSt → Prop) (p1 : Int32) (p2 : Int32) (p3 : Int32) (p4 : Int32) (u0 : zSt), TX0_blameEach Q1 p1 p2 p3 p4 u0 → zMV l yX0_blameEach wsX0_blameEach (rmP d) D cI cZ cJ [.ref (a 0 99), .int p1, .int p2, .int p3, .int p4] (k0 a cI cZ u0) (fun u : zSt => k0 a cI cZ u) Q1)) (hv : wp_X0_blameMore_0 TX0_blameEach Q1 p1 p2 p3 u0) : zMV l yX0_blameMore wsX0_blameMore (rmC (d + 1)) D cI cZ cJ [.ref (a 0 99), .int p1, .int p2, .int p3] (k0 a cI cZ u0) (fun u : zSt => k0 a cI cZ u) Q1 :=
  z_ofV (by decide) rfl rfl (Nat.le_of_ble_eq_true rfl) (fun C Y hl hret => bk_X0_blameMore_0 C Y hl hr_X0_blameEach hret hv)


section
variable {p : Program} {l : Launch} {e : Env} {s : State} {m : MethodId} {args : Array Value} {below : List Frame} {meth : Method} {c : Code} {H : Heap} {locs : List Loc} {Q : State → Prop} {D : va_G} {cI cZ cJ : ClassId} {A : Nat → Prop} {ls : Array Slot}
def wp_X0_blameEach_0 (TX0_blameMore : (zSt → Prop) → Int32 → Int32 → Int32 → zSt → Prop) (J6 : Int32 → Int32 → Int32 → Int32 → Int32 → zSt → Prop) (Q1 : zSt → Prop) (p1 : Int32) (p2 : Int32) (p3 : Int32) (p4 : Int32) (u0 : zSt) : Prop :=
  ∀ x5_1 : Int32, x5_1 = p3 → ∀ x6_2 : Int32, x6_2 = 0 → J6 p1 p2 p4 x5_1 x6_2 u0

set_option maxHeartbeats 4000000 in
set_option maxRecDepth 100000 in
theorem bk_X0_blameEach_0 {d : Nat} {a : Nat → Nat → Nat} {TX0_blameMore : (zSt → Prop) → Int32 → Int32 → Int32 → zSt → Prop} {J6 : Int32 → Int32 → Int32 → Int32 → Int32 → zSt → Prop} {Q1 : zSt → Prop} {p1 : Int32} {p2 : Int32} {p3 : Int32} {p4 : Int32} {u0 : zSt} (C : zCx p s m args c cX0_blameEach 8 RX0 wsX0_blameEach D cI cZ cJ A) (Y : zDy D A s.heap (k0 a cI cZ u0) H locs) (hl : lv_has ls 8 [(0, .ref (a 0 99)), (1, .int p1), (2, .int p2), (3, .int p3), (4, .int p4)]) (hr_X0_blameMore : (∀ (Q1 : zSt → Prop) (p1 : Int32) (p2 : Int32) (p3 : Int32) (u0 : zSt), TX0_blameMore Q1 p1 p2 p3 u0 → zMV l yX0_blameMore wsX0_blameMore (rmC d) D cI cZ cJ [.ref (a 0 99), .int p1, .int p2, .int p3] (k0 a cI cZ u0) (fun u : zSt => k0 a cI cZ u) Q1)) (hret : ∀ {pc : Nat} {H : Heap} {locs : List Loc} {ls : Array Slot} {u : zSt}, zDy D A s.heap ((fun u : zSt => k0 a cI cZ u) u) H locs → Q1 u → decode cX0_blameEach pc = .ok (.return_, 1) → W p l e (rmP d) s m args below meth c H locs 0 0 Q (F0 m pc ls [])) (hJ6 : ∀ (x1 : Int32) (x2 : Int32) (x4 : Int32) (x5 : Int32) (x6 : Int32) (u0 : zSt) (H : Heap) (locs : List Loc) (ls : Array Slot), J6 x1 x2 x4 x5 x6 u0 → zDy D A s.heap (k0 a cI cZ u0) H locs → lv_has ls 8 [(0, .ref (a 0 99)), (1, .int x1), (2, .int x2), (4, .int x4), (5, .int x5), (6, .int x6)] → W p l e (rmP d) s m args below meth c H locs 0 0 Q (F0 m 6 ls [])) (hv : wp_X0_blameEach_0 TX0_blameMore J6 Q1 p1 p2 p3 p4 u0) : W p l e (rmP d) s m args below meth c H locs 0 0 Q (F0 m 0 ls []) := by
  unfold wp_X0_blameEach_0 at hv
  obtain ⟨hx, hb, hml, hown, hts, hK, hA⟩ := id C
  refine lv_iload_n hx hb dX0_blameEach_0 rfl (lv_at hl 3 rfl) ?_
  refine z_topi hv (fun x5_1 ex5_1 hv => ?_)
  refine lv_istore (lv' := [(5, .int x5_1), (0, .ref (a 0 99)), (1, .int p1), (2, .int p2), (3, .int p3), (4, .int p4)]) hx hb dX0_blameEach_1 hl (by decide) rfl (fun ls hl => ?_)
  refine lv_iconst (v := 0) hx hb dX0_blameEach_3 (by decide) ?_
  refine z_topi hv (fun x6_2 ex6_2 hv => ?_)
  refine lv_istore (lv' := [(6, .int x6_2), (5, .int x5_1), (0, .ref (a 0 99)), (1, .int p1), (2, .int p2), (3, .int p3), (4, .int p4)]) hx hb dX0_blameEach_4 hl (by decide) rfl (fun ls hl => ?_)
  exact hJ6 _ _ _ _ _ _ _ _ _ hv Y (lv_sub hl [2, 3, 4, 6, 1, 0] rfl)

def wp_X0_blameEach_6 (TX0_blameMore : (zSt → Prop) → Int32 → Int32 → Int32 → zSt → Prop) (J6 : Int32 → Int32 → Int32 → Int32 → Int32 → zSt → Prop) (Q1 : zSt → Prop) (x1 : Int32) (x2 : Int32) (x4 : Int32) (x5 : Int32) (x6 : Int32) (u0 : zSt) : Prop :=
  ((12 : Int32) ≤ x6 → Q1 u0) ∧ (¬ (12 : Int32) ≤ x6 → ∀ x7_1 : Int32, x7_1 = ((1 : Int32) <<< ((x6 : Int32) &&& 31)) → (((x1 &&& (x5 ^^^ (-1))) &&& x7_1) = (0 : Int32) → ∀ x6_2 : Int32, x6_2 = x6 + 1 → J6 x1 x2 x4 x5 x6_2 u0) ∧ (¬ ((x1 &&& (x5 ^^^ (-1))) &&& x7_1) = (0 : Int32) → TX0_blameMore (fun (u0_3 : zSt) => ∀ x5_5 : Int32, x5_5 = (x5 ||| x7_1) → ∀ x6_6 : Int32, x6_6 = x6 + 1 → J6 x1 x2 x4 x5_5 x6_6 u0_3) (x2 ||| x7_1) x5 (x4 + 1) u0))

set_option maxHeartbeats 4000000 in
set_option maxRecDepth 100000 in
theorem bk_X0_blameEach_6 {d : Nat} {a : Nat → Nat → Nat} {TX0_blameMore : (zSt → Prop) → Int32 → Int32 → Int32 → zSt → Prop} {J6 : Int32 → Int32 → Int32 → Int32 → Int32 → zSt → Prop} {Q1 : zSt → Prop} {x1 : Int32} {x2 : Int32} {x4 : Int32} {x5 : Int32} {x6 : Int32} {u0 : zSt} (C : zCx p s m args c cX0_blameEach 8 RX0 wsX0_blameEach D cI cZ cJ A) (Y : zDy D A s.heap (k0 a cI cZ u0) H locs) (hl : lv_has ls 8 [(0, .ref (a 0 99)), (1, .int x1), (2, .int x2), (4, .int x4), (5, .int x5), (6, .int x6)]) (hr_X0_blameMore : (∀ (Q1 : zSt → Prop) (p1 : Int32) (p2 : Int32) (p3 : Int32) (u0 : zSt), TX0_blameMore Q1 p1 p2 p3 u0 → zMV l yX0_blameMore wsX0_blameMore (rmC d) D cI cZ cJ [.ref (a 0 99), .int p1, .int p2, .int p3] (k0 a cI cZ u0) (fun u : zSt => k0 a cI cZ u) Q1)) (hret : ∀ {pc : Nat} {H : Heap} {locs : List Loc} {ls : Array Slot} {u : zSt}, zDy D A s.heap ((fun u : zSt => k0 a cI cZ u) u) H locs → Q1 u → decode cX0_blameEach pc = .ok (.return_, 1) → W p l e (rmP d) s m args below meth c H locs 0 0 Q (F0 m pc ls [])) (hJ6 : ∀ (x1 : Int32) (x2 : Int32) (x4 : Int32) (x5 : Int32) (x6 : Int32) (u0 : zSt) (H : Heap) (locs : List Loc) (ls : Array Slot), J6 x1 x2 x4 x5 x6 u0 → zDy D A s.heap (k0 a cI cZ u0) H locs → lv_has ls 8 [(0, .ref (a 0 99)), (1, .int x1), (2, .int x2), (4, .int x4), (5, .int x5), (6, .int x6)] → W p l e (rmP d) s m args below meth c H locs 0 0 Q (F0 m 6 ls [])) (hv : wp_X0_blameEach_6 TX0_blameMore J6 Q1 x1 x2 x4 x5 x6 u0) : W p l e (rmP d) s m args below meth c H locs 0 0 Q (F0 m 6 ls []) := by
  unfold wp_X0_blameEach_6 at hv
  obtain ⟨hx, hb, hml, hown, hts, hK, hA⟩ := id C
  refine lv_iload hx hb dX0_blameEach_6 (lv_at hl 5 rfl) ?_
  refine lv_bipush (v := 12) hx hb dX0_blameEach_8 (by decide) ?_
  refine lv_icmp_ge (tgt := 58) hx hb dX0_blameEach_10 (by decide) (fun hc => ?_) (fun hc => ?_)
  · have hv := hv.1 hc
    exact hret Y hv dX0_blameEach_58
  · have hv := hv.2 hc
    refine lv_iconst (v := 1) hx hb dX0_blameEach_13 (by decide) ?_
    refine lv_iload hx hb dX0_blameEach_14 (lv_at hl 5 rfl) ?_
    refine lv_ishl hx hb dX0_blameEach_16 ?_
    refine z_topi hv (fun x7_1 ex7_1 hv => ?_)
    refine lv_istore (lv' := [(7, .int x7_1), (0, .ref (a 0 99)), (1, .int x1), (2, .int x2), (4, .int x4), (5, .int x5), (6, .int x6)]) hx hb dX0_blameEach_17 hl (by decide) rfl (fun ls hl => ?_)
    refine lv_iload_n hx hb dX0_blameEach_19 rfl (lv_at hl 2 rfl) ?_
    refine lv_iload hx hb dX0_blameEach_20 (lv_at hl 5 rfl) ?_
    refine lv_iconst (v := (-1)) hx hb dX0_blameEach_22 (by decide) ?_
    refine lv_ixor hx hb dX0_blameEach_23 ?_
    refine lv_iand hx hb dX0_blameEach_24 ?_
    refine lv_iload hx hb dX0_blameEach_25 (lv_at hl 0 rfl) ?_
    refine lv_iand hx hb dX0_blameEach_27 ?_
    refine lv_if_eq (tgt := 52) hx hb dX0_blameEach_28 (by decide) (fun hc => ?_) (fun hc => ?_)
    · have hv := hv.1 hc
      obtain ⟨x6_2, ex6_2, hv⟩ := z_nv hv
      refine lv_iinc (v := x6_2) (lv' := [(6, .int x6_2), (7, .int x7_1), (0, .ref (a 0 99)), (1, .int x1), (2, .int x2), (4, .int x4), (5, .int x5)]) hx hb dX0_blameEach_52 hl (k := 6) rfl (by rw [ex6_2]; rfl) (by decide) rfl (fun ls hl => ?_)
      refine lv_goto (tgt := 6) hx hb dX0_blameEach_55 (by decide) ?_
      exact hJ6 _ _ _ _ _ _ _ _ _ hv Y (lv_sub hl [2, 3, 4, 5, 6, 0] rfl)
    · have hv := hv.2 hc
      refine lv_aload_n hx hb dX0_blameEach_31 rfl (lv_at hl 1 rfl) ?_
      refine lv_iload_n hx hb dX0_blameEach_32 rfl (lv_at hl 3 rfl) ?_
      refine lv_iload hx hb dX0_blameEach_33 (lv_at hl 0 rfl) ?_
      refine lv_ior hx hb dX0_blameEach_35 ?_
      refine lv_iload hx hb dX0_blameEach_36 (lv_at hl 5 rfl) ?_
      refine lv_iload hx hb dX0_blameEach_38 (lv_at hl 4 rfl) ?_
      refine lv_iconst (v := 1) hx hb dX0_blameEach_40 (by decide) ?_
      refine lv_iadd hx hb dX0_blameEach_41 ?_
      refine z_callVv C Y (hr_X0_blameMore _ _ _ _ _ hv) (zFr.self _ _) (cwV 3 hts gX0_blameEach_X0_blameMore rfl rfl rfl (by decide +kernel) ⟨(by first | exact Nat.le_of_ble_eq_true rfl | (simp only [rmC, rmP, rmG, List.map, List.sum_cons, List.sum_nil, Value.category]; omega)), (by first | exact Nat.le_of_ble_eq_true rfl | (simp only [rmC, rmP, rmG, List.map, List.sum_cons, List.sum_nil, Value.category]; omega))⟩) (ge0_0 ..) rfl rfl rfl hl.1 rfl (Nat.le_of_ble_eq_true rfl) dX0_blameEach_42 ⟨Nat.zero_le _, Nat.zero_le _⟩ (fun u0_3 H locs Y hv => ?_)
      refine lv_iload hx hb dX0_blameEach_45 (lv_at hl 5 rfl) ?_
      refine lv_iload hx hb dX0_blameEach_47 (lv_at hl 0 rfl) ?_
      refine lv_ior hx hb dX0_blameEach_49 ?_
      refine z_topi hv (fun x5_5 ex5_5 hv => ?_)
      refine lv_istore (lv' := [(5, .int x5_5), (7, .int x7_1), (0, .ref (a 0 99)), (1, .int x1), (2, .int x2), (4, .int x4), (6, .int x6)]) hx hb dX0_blameEach_50 hl (by decide) rfl (fun ls hl => ?_)
      obtain ⟨x6_6, ex6_6, hv⟩ := z_nv hv
      refine lv_iinc (v := x6_6) (lv' := [(6, .int x6_6), (5, .int x5_5), (7, .int x7_1), (0, .ref (a 0 99)), (1, .int x1), (2, .int x2), (4, .int x4)]) hx hb dX0_blameEach_52 hl (k := 6) rfl (by rw [ex6_6]; rfl) (by decide) rfl (fun ls hl => ?_)
      refine lv_goto (tgt := 6) hx hb dX0_blameEach_55 (by decide) ?_
      exact hJ6 _ _ _ _ _ _ _ _ _ hv Y (lv_sub hl [3, 4, 5, 6, 1, 0] rfl)

end
set_option maxHeartbeats 4000000 in
set_option maxRecDepth 100000 in
theorem k_X0_blameEach (l : Launch) {d : Nat} {D : va_G} {cI cZ cJ : ClassId} {a : Nat → Nat → Nat} {TX0_blameMore : (zSt → Prop) → Int32 → Int32 → Int32 → zSt → Prop} {Q1 : zSt → Prop} {p1 : Int32} {p2 : Int32} {p3 : Int32} {p4 : Int32} {u0 : zSt} (hr_X0_blameMore : (∀ (Q1 : zSt → Prop) (p1 : Int32) (p2 : Int32) (p3 : Int32) (u0 : zSt), TX0_blameMore Q1 p1 p2 p3 u0 → zMV l yX0_blameMore wsX0_blameMore (rmC d) D cI cZ cJ [.ref (a 0 99), .int p1, .int p2, .int p3] (k0 a cI cZ u0) (fun u : zSt => k0 a cI cZ u) Q1)) (I6 : Nat → Int32 → Int32 → Int32 → Int32 → Int32 → zSt → Prop)
    (hv : wp_X0_blameEach_0 TX0_blameMore (fun x1 x2 x4 x5 x6 u0 => ∃ n : Nat, I6 n x1 x2 x4 x5 x6 u0) Q1 p1 p2 p3 p4 u0)
    (hI6 : ∀ (n : Nat) (x1 : Int32) (x2 : Int32) (x4 : Int32) (x5 : Int32) (x6 : Int32) (u0 : zSt), I6 n x1 x2 x4 x5 x6 u0 → wp_X0_blameEach_6 TX0_blameMore (fun x1 x2 x4 x5 x6 u0 => ∃ k : Nat, k < n ∧ I6 k x1 x2 x4 x5 x6 u0) Q1 x1 x2 x4 x5 x6 u0) : zMV l yX0_blameEach wsX0_blameEach (rmP d) D cI cZ cJ [.ref (a 0 99), .int p1, .int p2, .int p3, .int p4] (k0 a cI cZ u0) (fun u : zSt => k0 a cI cZ u) Q1 := by
  refine z_ofV (by decide) rfl rfl (Nat.le_of_ble_eq_true rfl) (@fun p e s m args below meth c A Q ls C Y hl hret => ?_)
  have key : ∀ n : Nat, (∀ (x1 : Int32) (x2 : Int32) (x4 : Int32) (x5 : Int32) (x6 : Int32) (u0 : zSt) (H : Heap) (locs : List Loc) (ls : Array Slot), I6 n x1 x2 x4 x5 x6 u0 → zDy D A s.heap (k0 a cI cZ u0) H locs → lv_has ls 8 [(0, .ref (a 0 99)), (1, .int x1), (2, .int x2), (4, .int x4), (5, .int x5), (6, .int x6)] → W p l e (rmP d) s m args below meth c H locs 0 0 Q (F0 m 6 ls [])) := by
    intro n
    induction n using Nat.strongRecOn with
    | _ n ih =>
      exact fun x1 x2 x4 x5 x6 u0 H locs ls hi Y hl => bk_X0_blameEach_6 C Y hl hr_X0_blameMore hret (fun y0 y1 y2 y3 y4 y5 H locs ls hi Y hl => by obtain ⟨k, hk, hi⟩ := hi; exact (ih k hk) y0 y1 y2 y3 y4 y5 H locs ls hi Y hl) (hI6 n x1 x2 x4 x5 x6 u0 hi)
  exact bk_X0_blameEach_0 C Y hl hr_X0_blameMore hret (fun y0 y1 y2 y3 y4 y5 H locs ls hi Y hl => by obtain ⟨n, hi⟩ := hi; exact (key n) y0 y1 y2 y3 y4 y5 H locs ls hi Y hl) hv


def TPX0_blameEach (TX0_blameMore : (zSt → Prop) → Int32 → Int32 → Int32 → zSt → Prop) (Q1 : zSt → Prop) (p1 : Int32) (p2 : Int32) (p3 : Int32) (p4 : Int32) (u0 : zSt) : Prop := ∃ I6 : Nat → Int32 → Int32 → Int32 → Int32 → Int32 → zSt → Prop, (wp_X0_blameEach_0 TX0_blameMore (fun x1 x2 x4 x5 x6 u0 => ∃ n : Nat, I6 n x1 x2 x4 x5 x6 u0) Q1 p1 p2 p3 p4 u0) ∧ (∀ (n : Nat) (x1 : Int32) (x2 : Int32) (x4 : Int32) (x5 : Int32) (x6 : Int32) (u0 : zSt), I6 n x1 x2 x4 x5 x6 u0 → wp_X0_blameEach_6 TX0_blameMore (fun x1 x2 x4 x5 x6 u0 => ∃ k : Nat, k < n ∧ I6 k x1 x2 x4 x5 x6 u0) Q1 x1 x2 x4 x5 x6 u0)
def TRX0_blameMore : Nat → (zSt → Prop) → Int32 → Int32 → Int32 → zSt → Prop
  | 0 => fun _ _ _ _ _ => False
  | d + 1 => fun Q1 p1 p2 p3 u0 => wp_X0_blameMore_0 (TPX0_blameEach (TRX0_blameMore d)) Q1 p1 p2 p3 u0
theorem cr_X0_blameMore (l : Launch) {D : va_G} {cI cZ cJ : ClassId} {a : Nat → Nat → Nat} : ∀ (d : Nat) (Q1 : zSt → Prop) (p1 : Int32) (p2 : Int32) (p3 : Int32) (u0 : zSt), TRX0_blameMore d Q1 p1 p2 p3 u0 → zMV l yX0_blameMore wsX0_blameMore (rmC d) D cI cZ cJ [.ref (a 0 99), .int p1, .int p2, .int p3] (k0 a cI cZ u0) (fun u : zSt => k0 a cI cZ u) Q1 := by
  intro d
  induction d with
  | zero => intro Q1 p1 p2 p3 u0 hv; exact hv.elim
  | succ d ih =>
    intro Q1 p1 p2 p3 u0 hv
    refine k_X0_blameMore l (TX0_blameEach := TPX0_blameEach (TRX0_blameMore d)) (fun Q1 p1 p2 p3 p4 u0 hv => ?_) hv
    obtain ⟨I6, hv, hI6⟩ := hv
    exact k_X0_blameEach l ih I6 hv hI6
abbrev TX0_blameMore := TRX0_blameMore 14
theorem c_X0_blameMore (l : Launch) {D : va_G} {cI cZ cJ : ClassId} {a : Nat → Nat → Nat} {Q1 : zSt → Prop} {p1 : Int32} {p2 : Int32} {p3 : Int32} {u0 : zSt} (hv : TX0_blameMore Q1 p1 p2 p3 u0) : zMV l yX0_blameMore wsX0_blameMore (rmC 14) D cI cZ cJ [.ref (a 0 99), .int p1, .int p2, .int p3] (k0 a cI cZ u0) (fun u : zSt => k0 a cI cZ u) Q1 := cr_X0_blameMore l 14 Q1 p1 p2 p3 u0 hv

theorem in_X3_lotsOf_3 : ∀ w ∈ wsX30, w ∈ wsX3_lotsOf := by first | exact fun w h => List.mem_cons_of_mem _ (List.mem_append_right _ h) | exact fun w h => List.mem_cons_of_mem _ (List.mem_append_left _ (List.mem_append_right _ h)) | decide +kernel
theorem fl_X3_lotsOf_27 : Cond.fieldLink RX3 27 (TX3 6).1 (TX3 6).2.1 (TX3 6).2.2.1 ∈ wsX3_lotsOf := by decide +kernel
theorem fl_X3_lotsOf_41 : Cond.fieldLink RX3 41 (TX3 7).1 (TX3 7).2.1 (TX3 7).2.2.1 ∈ wsX3_lotsOf := by decide +kernel
section
variable {p : Program} {l : Launch} {e : Env} {s : State} {m : MethodId} {args : Array Value} {below : List Frame} {meth : Method} {c : Code} {H : Heap} {locs : List Loc} {Q : State → Prop} {D : va_G} {cI cZ cJ : ClassId} {A : Nat → Prop} {ls : Array Slot}
def wp_X3_lotsOf_0 (J5 : Int64 → Int32 → Int32 → zSt → Prop) (Q1 : Int32 → zSt → Prop) (p1 : Int64) (u3 : zSt) : Prop :=
  ∀ x3_1 : Int32, x3_1 = 0 → ∀ x4_2 : Int32, x4_2 = 0 → J5 p1 x3_1 x4_2 u3

set_option maxHeartbeats 4000000 in
set_option maxRecDepth 100000 in
theorem bk_X3_lotsOf_0 {a : Nat → Nat → Nat} {J5 : Int64 → Int32 → Int32 → zSt → Prop} {Q1 : Int32 → zSt → Prop} {p1 : Int64} {u3 : zSt} (C : zCx p s m args c cX3_lotsOf 5 RX3 wsX3_lotsOf D cI cZ cJ A) (Y : zDy D A s.heap (k3 a cI cZ u3) H locs) (hl : lv_has ls 5 [(0, .ref (a 3 99)), (1, .long p1)]) (hret : ∀ {pc : Nat} {H : Heap} {locs : List Loc} {ls : Array Slot} {r : Int32} {u : zSt}, zDy D A s.heap ((fun u : zSt => k3 a cI cZ u) u) H locs → Q1 r u → decode cX3_lotsOf pc = .ok (.ireturn, 1) → W p l e ({ frames := 0, cells := 0, slots := 0, locals := 0 } : Room) s m args below meth c H locs 0 0 Q (F0 m pc ls [.int r])) (hJ5 : ∀ (x1 : Int64) (x3 : Int32) (x4 : Int32) (u3 : zSt) (H : Heap) (locs : List Loc) (ls : Array Slot), J5 x1 x3 x4 u3 → zDy D A s.heap (k3 a cI cZ u3) H locs → lv_has ls 5 [(0, .ref (a 3 99)), (1, .long x1), (3, .int x3), (4, .int x4)] → W p l e ({ frames := 0, cells := 0, slots := 0, locals := 0 } : Room) s m args below meth c H locs 0 0 Q (F0 m 5 ls [])) (hv : wp_X3_lotsOf_0 J5 Q1 p1 u3) : W p l e ({ frames := 0, cells := 0, slots := 0, locals := 0 } : Room) s m args below meth c H locs 0 0 Q (F0 m 0 ls []) := by
  unfold wp_X3_lotsOf_0 at hv
  obtain ⟨hx, hb, hml, hown, hts, hK, hA⟩ := id C
  refine lv_iconst (v := 0) hx hb dX3_lotsOf_0 (by decide) ?_
  refine z_topi hv (fun x3_1 ex3_1 hv => ?_)
  refine lv_istore_n (lv' := [(3, .int x3_1), (0, .ref (a 3 99)), (1, .long p1)]) hx hb dX3_lotsOf_1 rfl hl (by decide) rfl (fun ls hl => ?_)
  refine lv_iconst (v := 0) hx hb dX3_lotsOf_2 (by decide) ?_
  refine z_topi hv (fun x4_2 ex4_2 hv => ?_)
  refine lv_istore (lv' := [(4, .int x4_2), (3, .int x3_1), (0, .ref (a 3 99)), (1, .long p1)]) hx hb dX3_lotsOf_3 hl (by decide) rfl (fun ls hl => ?_)
  exact hJ5 _ _ _ _ _ _ _ hv Y (lv_sub hl [2, 3, 1, 0] rfl)

def wp_X3_lotsOf_5 (J5 : Int64 → Int32 → Int32 → zSt → Prop) (Q1 : Int32 → zSt → Prop) (x1 : Int64) (x3 : Int32) (x4 : Int32) (u3 : zSt) : Prop :=
  ((u3.1 7) ≤ x4 → Q1 x3 u3) ∧ (¬ (u3.1 7) ≤ x4 → ((lg_cmp (((x1 : Int64) >>> ((x4 : Int32).toInt64 &&& 63)) &&& (1 : Int64)) (0 : Int64)) = (0 : Int32) → ∀ x4_1 : Int32, x4_1 = x4 + 1 → J5 x1 x3 x4_1 u3) ∧ (¬ (lg_cmp (((x1 : Int64) >>> ((x4 : Int32).toInt64 &&& 63)) &&& (1 : Int64)) (0 : Int64)) = (0 : Int32) → vp_in x4 60 ∧ (∀ x3_2 : Int32, x3_2 = (x3 ||| (u3.2 6 x4.toNatClampNeg)) → ∀ x4_3 : Int32, x4_3 = x4 + 1 → J5 x1 x3_2 x4_3 u3)))

set_option maxHeartbeats 4000000 in
set_option maxRecDepth 100000 in
theorem bk_X3_lotsOf_5 {a : Nat → Nat → Nat} {J5 : Int64 → Int32 → Int32 → zSt → Prop} {Q1 : Int32 → zSt → Prop} {x1 : Int64} {x3 : Int32} {x4 : Int32} {u3 : zSt} (C : zCx p s m args c cX3_lotsOf 5 RX3 wsX3_lotsOf D cI cZ cJ A) (Y : zDy D A s.heap (k3 a cI cZ u3) H locs) (hl : lv_has ls 5 [(0, .ref (a 3 99)), (1, .long x1), (3, .int x3), (4, .int x4)]) (hret : ∀ {pc : Nat} {H : Heap} {locs : List Loc} {ls : Array Slot} {r : Int32} {u : zSt}, zDy D A s.heap ((fun u : zSt => k3 a cI cZ u) u) H locs → Q1 r u → decode cX3_lotsOf pc = .ok (.ireturn, 1) → W p l e ({ frames := 0, cells := 0, slots := 0, locals := 0 } : Room) s m args below meth c H locs 0 0 Q (F0 m pc ls [.int r])) (hJ5 : ∀ (x1 : Int64) (x3 : Int32) (x4 : Int32) (u3 : zSt) (H : Heap) (locs : List Loc) (ls : Array Slot), J5 x1 x3 x4 u3 → zDy D A s.heap (k3 a cI cZ u3) H locs → lv_has ls 5 [(0, .ref (a 3 99)), (1, .long x1), (3, .int x3), (4, .int x4)] → W p l e ({ frames := 0, cells := 0, slots := 0, locals := 0 } : Room) s m args below meth c H locs 0 0 Q (F0 m 5 ls [])) (hv : wp_X3_lotsOf_5 J5 Q1 x1 x3 x4 u3) : W p l e ({ frames := 0, cells := 0, slots := 0, locals := 0 } : Room) s m args below meth c H locs 0 0 Q (F0 m 5 ls []) := by
  unfold wp_X3_lotsOf_5 at hv
  obtain ⟨hx, hb, hml, hown, hts, hK, hA⟩ := id C
  refine lv_iload hx hb dX3_lotsOf_5 (lv_at hl 3 rfl) ?_
  refine lv_aload_n hx hb dX3_lotsOf_7 rfl (lv_at hl 0 rfl) ?_
  refine z_get C Y (Cn := RX3) (T := TX3) (N := 9) in_X3_lotsOf_3 rfl (ge3_3 ..) 7 (by decide) fl_X3_lotsOf_41 rfl dX3_lotsOf_8 ?_
  refine lv_icmp_ge (tgt := 41) hx hb dX3_lotsOf_11 (by decide) (fun hc => ?_) (fun hc => ?_)
  · have hv := hv.1 hc
    refine lv_iload_n hx hb dX3_lotsOf_41 rfl (lv_at hl 2 rfl) ?_
    exact hret Y hv dX3_lotsOf_42
  · have hv := hv.2 hc
    refine lv_lload_n hx hb dX3_lotsOf_14 rfl (lv_at hl 1 rfl) ?_
    refine lv_iload hx hb dX3_lotsOf_15 (lv_at hl 3 rfl) ?_
    refine lv_lshr hx hb dX3_lotsOf_17 rfl ?_
    refine lv_lconst (v := 1) hx hb dX3_lotsOf_18 (by decide) ?_
    refine lv_land hx hb dX3_lotsOf_19 ?_
    refine lv_lconst (v := 0) hx hb dX3_lotsOf_20 (by decide) ?_
    refine W.lcmp hx hb dX3_lotsOf_21 ?_
    refine lv_if_eq (tgt := 35) hx hb dX3_lotsOf_22 (by decide) (fun hc => ?_) (fun hc => ?_)
    · have hv := hv.1 hc
      obtain ⟨x4_1, ex4_1, hv⟩ := z_nv hv
      refine lv_iinc (v := x4_1) (lv' := [(4, .int x4_1), (0, .ref (a 3 99)), (1, .long x1), (3, .int x3)]) hx hb dX3_lotsOf_35 hl (k := 3) rfl (by rw [ex4_1]; rfl) (by decide) rfl (fun ls hl => ?_)
      refine lv_goto (tgt := 5) hx hb dX3_lotsOf_38 (by decide) ?_
      exact hJ5 _ _ _ _ _ _ _ hv Y (lv_sub hl [1, 2, 3, 0] rfl)
    · have hv := hv.2 hc
      refine lv_iload_n hx hb dX3_lotsOf_25 rfl (lv_at hl 2 rfl) ?_
      refine lv_aload_n hx hb dX3_lotsOf_26 rfl (lv_at hl 0 rfl) ?_
      refine z_get C Y (Cn := RX3) (T := TX3) (N := 9) in_X3_lotsOf_3 rfl (ge3_3 ..) 6 (by decide) fl_X3_lotsOf_27 rfl dX3_lotsOf_27 ?_
      refine lv_iload hx hb dX3_lotsOf_30 (lv_at hl 3 rfl) ?_
      obtain ⟨hi, hv⟩ := hv
      refine z_ldI C Y (pa3_3_6 ..) hi dX3_lotsOf_32 ?_
      refine lv_ior hx hb dX3_lotsOf_33 ?_
      refine z_topi hv (fun x3_2 ex3_2 hv => ?_)
      refine lv_istore_n (lv' := [(3, .int x3_2), (0, .ref (a 3 99)), (1, .long x1), (4, .int x4)]) hx hb dX3_lotsOf_34 rfl hl (by decide) rfl (fun ls hl => ?_)
      obtain ⟨x4_3, ex4_3, hv⟩ := z_nv hv
      refine lv_iinc (v := x4_3) (lv' := [(4, .int x4_3), (3, .int x3_2), (0, .ref (a 3 99)), (1, .long x1)]) hx hb dX3_lotsOf_35 hl (k := 3) rfl (by rw [ex4_3]; rfl) (by decide) rfl (fun ls hl => ?_)
      refine lv_goto (tgt := 5) hx hb dX3_lotsOf_38 (by decide) ?_
      exact hJ5 _ _ _ _ _ _ _ hv Y (lv_sub hl [2, 3, 1, 0] rfl)

end
set_option maxHeartbeats 4000000 in
set_option maxRecDepth 100000 in
theorem k_X3_lotsOf (l : Launch) {D : va_G} {cI cZ cJ : ClassId} {a : Nat → Nat → Nat} {Q1 : Int32 → zSt → Prop} {p1 : Int64} {u3 : zSt} (I5 : Nat → Int64 → Int32 → Int32 → zSt → Prop)
    (hv : wp_X3_lotsOf_0 (fun x1 x3 x4 u3 => ∃ n : Nat, I5 n x1 x3 x4 u3) Q1 p1 u3)
    (hI5 : ∀ (n : Nat) (x1 : Int64) (x3 : Int32) (x4 : Int32) (u3 : zSt), I5 n x1 x3 x4 u3 → wp_X3_lotsOf_5 (fun x1 x3 x4 u3 => ∃ k : Nat, k < n ∧ I5 k x1 x3 x4 u3) Q1 x1 x3 x4 u3) : zMI l yX3_lotsOf wsX3_lotsOf ({ frames := 0, cells := 0, slots := 0, locals := 0 } : Room) D cI cZ cJ [.ref (a 3 99), .long p1] (k3 a cI cZ u3) (fun u : zSt => k3 a cI cZ u) Q1 := by
  refine z_ofI (by decide) rfl rfl (Nat.le_of_ble_eq_true rfl) (@fun p e s m args below meth c A Q ls C Y hl hret => ?_)
  have key : ∀ n : Nat, (∀ (x1 : Int64) (x3 : Int32) (x4 : Int32) (u3 : zSt) (H : Heap) (locs : List Loc) (ls : Array Slot), I5 n x1 x3 x4 u3 → zDy D A s.heap (k3 a cI cZ u3) H locs → lv_has ls 5 [(0, .ref (a 3 99)), (1, .long x1), (3, .int x3), (4, .int x4)] → W p l e ({ frames := 0, cells := 0, slots := 0, locals := 0 } : Room) s m args below meth c H locs 0 0 Q (F0 m 5 ls [])) := by
    intro n
    induction n using Nat.strongRecOn with
    | _ n ih =>
      exact fun x1 x3 x4 u3 H locs ls hi Y hl => bk_X3_lotsOf_5 C Y hl hret (fun y0 y1 y2 y3 H locs ls hi Y hl => by obtain ⟨k, hk, hi⟩ := hi; exact (ih k hk) y0 y1 y2 y3 H locs ls hi Y hl) (hI5 n x1 x3 x4 u3 hi)
  exact bk_X3_lotsOf_0 C Y hl hret (fun y0 y1 y2 y3 H locs ls hi Y hl => by obtain ⟨n, hi⟩ := hi; exact (key n) y0 y1 y2 y3 H locs ls hi Y hl) hv
def TX3_lotsOf (Q1 : Int32 → zSt → Prop) (p1 : Int64) (u3 : zSt) : Prop :=
  ∃ I5 : Nat → Int64 → Int32 → Int32 → zSt → Prop, (wp_X3_lotsOf_0 (fun x1 x3 x4 u3 => ∃ n : Nat, I5 n x1 x3 x4 u3) Q1 p1 u3) ∧ (∀ (n : Nat) (x1 : Int64) (x3 : Int32) (x4 : Int32) (u3 : zSt), I5 n x1 x3 x4 u3 → wp_X3_lotsOf_5 (fun x1 x3 x4 u3 => ∃ k : Nat, k < n ∧ I5 k x1 x3 x4 u3) Q1 x1 x3 x4 u3)
set_option maxHeartbeats 4000000 in
set_option maxRecDepth 100000 in
theorem c_X3_lotsOf (l : Launch) {D : va_G} {cI cZ cJ : ClassId} {a : Nat → Nat → Nat} {Q1 : Int32 → zSt → Prop} {p1 : Int64} {u3 : zSt} (hv : TX3_lotsOf Q1 p1 u3) : zMI l yX3_lotsOf wsX3_lotsOf ({ frames := 0, cells := 0, slots := 0, locals := 0 } : Room) D cI cZ cJ [.ref (a 3 99), .long p1] (k3 a cI cZ u3) (fun u : zSt => k3 a cI cZ u) Q1 := by
  obtain ⟨I5, hv, hI5⟩ := hv
  exact k_X3_lotsOf l I5 hv hI5


theorem in_X0_setSuspects_0 : ∀ w ∈ wsX00, w ∈ wsX0_setSuspects := by first | exact fun w h => List.mem_cons_of_mem _ (List.mem_append_right _ h) | exact fun w h => List.mem_cons_of_mem _ (List.mem_append_left _ (List.mem_append_right _ h)) | decide +kernel
theorem in_X0_setSuspects_3 : ∀ w ∈ wsX30, w ∈ wsX0_setSuspects := by first | exact fun w h => List.mem_cons_of_mem _ (List.mem_append_right _ h) | exact fun w h => List.mem_cons_of_mem _ (List.mem_append_left _ (List.mem_append_right _ h)) | decide +kernel
theorem fl_X0_setSuspects_9 : Cond.fieldLink RX0 9 (TX0 3).1 (TX0 3).2.1 (TX0 3).2.2.1 ∈ wsX0_setSuspects := by decide +kernel
theorem fl_X0_setSuspects_39 : Cond.fieldLink RX0 39 (TX0 4).1 (TX0 4).2.1 (TX0 4).2.2.1 ∈ wsX0_setSuspects := by decide +kernel
theorem fl_X0_setSuspects_42 : Cond.fieldLink RX0 42 (TX3 7).1 (TX3 7).2.1 (TX3 7).2.2.1 ∈ wsX0_setSuspects := by decide +kernel
theorem fl_X0_setSuspects_45 : Cond.fieldLink RX0 45 (TX3 6).1 (TX3 6).2.1 (TX3 6).2.2.1 ∈ wsX0_setSuspects := by decide +kernel
section
variable {p : Program} {l : Launch} {e : Env} {s : State} {m : MethodId} {args : Array Value} {below : List Frame} {meth : Method} {c : Code} {H : Heap} {locs : List Loc} {Q : State → Prop} {D : va_G} {cI cZ cJ : ClassId} {A : Nat → Prop} {ls : Array Slot}
def wp_X0_setSuspects_0 (J8 : Int64 → Int32 → Int32 → zSt → zSt → Prop) (Q1 : (zSt × zSt) → Prop) (p2 : Int64) (p4 : Int32) (u0 : zSt) (u3 : zSt) : Prop :=
  ∀ u0_1 : zSt, u0_1 = zI u0 4 0 → ∀ x5_2 : Int32, x5_2 = 0 → J8 p2 p4 x5_2 u0_1 u3

set_option maxHeartbeats 4000000 in
set_option maxRecDepth 100000 in
theorem bk_X0_setSuspects_0 {a : Nat → Nat → Nat} {J8 : Int64 → Int32 → Int32 → zSt → zSt → Prop} {Q1 : (zSt × zSt) → Prop} {p2 : Int64} {p4 : Int32} {u0 : zSt} {u3 : zSt} (C : zCx p s m args c cX0_setSuspects 6 RX0 wsX0_setSuspects D cI cZ cJ A) (Y : zDy D A s.heap (kb a cI cZ (u0, u3)) H locs) (hl : lv_has ls 6 [(0, .ref (a 0 99)), (1, .ref (a 3 99)), (2, .long p2), (4, .int p4)]) (hret : ∀ {pc : Nat} {H : Heap} {locs : List Loc} {ls : Array Slot} {u : zSt × zSt}, zDy D A s.heap ((fun u : zSt × zSt => kb a cI cZ u) u) H locs → Q1 u → decode cX0_setSuspects pc = .ok (.return_, 1) → W p l e ({ frames := 0, cells := 0, slots := 0, locals := 0 } : Room) s m args below meth c H locs 0 0 Q (F0 m pc ls [])) (hJ8 : ∀ (x2 : Int64) (x4 : Int32) (x5 : Int32) (u0 : zSt) (u3 : zSt) (H : Heap) (locs : List Loc) (ls : Array Slot), J8 x2 x4 x5 u0 u3 → zDy D A s.heap (kb a cI cZ (u0, u3)) H locs → lv_has ls 6 [(0, .ref (a 0 99)), (1, .ref (a 3 99)), (2, .long x2), (4, .int x4), (5, .int x5)] → W p l e ({ frames := 0, cells := 0, slots := 0, locals := 0 } : Room) s m args below meth c H locs 0 0 Q (F0 m 8 ls [])) (hv : wp_X0_setSuspects_0 J8 Q1 p2 p4 u0 u3) : W p l e ({ frames := 0, cells := 0, slots := 0, locals := 0 } : Room) s m args below meth c H locs 0 0 Q (F0 m 0 ls []) := by
  unfold wp_X0_setSuspects_0 at hv
  obtain ⟨hx, hb, hml, hown, hts, hK, hA⟩ := id C
  refine lv_aload_n hx hb dX0_setSuspects_0 rfl (lv_at hl 0 rfl) ?_
  refine lv_iconst (v := 0) hx hb dX0_setSuspects_1 (by decide) ?_
  refine z_putI C Y (Cn := RX0) (T := TX0) (N := 5) in_X0_setSuspects_0 rfl tyX0 tyX0_ok nmX0 (geb_0 ..) 4 (by decide) fl_X0_setSuspects_39 rfl (by decide +kernel) (Nat.le_of_ble_eq_true rfl) (sib_0_4 ..) dX0_setSuspects_2 (fun H locs Y => ?_)
  obtain ⟨u0_1, eu0_1, Y, hv⟩ := z_nm (kf := fun z => (kb a cI cZ (z, u3))) Y hv
  refine lv_iconst (v := 0) hx hb dX0_setSuspects_5 (by decide) ?_
  refine z_topi hv (fun x5_2 ex5_2 hv => ?_)
  refine lv_istore (lv' := [(5, .int x5_2), (0, .ref (a 0 99)), (1, .ref (a 3 99)), (2, .long p2), (4, .int p4)]) hx hb dX0_setSuspects_6 hl (by decide) rfl (fun ls hl => ?_)
  exact hJ8 _ _ _ _ _ _ _ _ hv Y (lv_sub hl [1, 2, 3, 4, 0] rfl)

def wp_X0_setSuspects_8 (J8 : Int64 → Int32 → Int32 → zSt → zSt → Prop) (Q1 : (zSt × zSt) → Prop) (x2 : Int64) (x4 : Int32) (x5 : Int32) (u0 : zSt) (u3 : zSt) : Prop :=
  ((u3.1 7) ≤ x5 → Q1 (u0, u3)) ∧ (¬ (u3.1 7) ≤ x5 → ((lg_cmp (((x2 : Int64) >>> ((x5 : Int32).toInt64 &&& 63)) &&& (1 : Int64)) (0 : Int64)) = (0 : Int32) → ∀ x5_1 : Int32, x5_1 = x5 + 1 → J8 x2 x4 x5_1 u0 u3) ∧ (¬ (lg_cmp (((x2 : Int64) >>> ((x5 : Int32).toInt64 &&& 63)) &&& (1 : Int64)) (0 : Int64)) = (0 : Int32) → vp_in x5 60 ∧ (vp_in (u0.1 4) 60 ∧ (∀ u0_2 : zSt, u0_2 = zA u0 3 (upd (u0.2 3) (u0.1 4).toNatClampNeg ((u3.2 6 x5.toNatClampNeg) &&& (x4 ^^^ (-1)))) → ∀ u0_3 : zSt, u0_3 = zI u0_2 4 ((u0_2.1 4) + 1) → ∀ x5_4 : Int32, x5_4 = x5 + 1 → J8 x2 x4 x5_4 u0_3 u3))))

set_option maxHeartbeats 4000000 in
set_option maxRecDepth 100000 in
theorem bk_X0_setSuspects_8 {a : Nat → Nat → Nat} {J8 : Int64 → Int32 → Int32 → zSt → zSt → Prop} {Q1 : (zSt × zSt) → Prop} {x2 : Int64} {x4 : Int32} {x5 : Int32} {u0 : zSt} {u3 : zSt} (C : zCx p s m args c cX0_setSuspects 6 RX0 wsX0_setSuspects D cI cZ cJ A) (Y : zDy D A s.heap (kb a cI cZ (u0, u3)) H locs) (hl : lv_has ls 6 [(0, .ref (a 0 99)), (1, .ref (a 3 99)), (2, .long x2), (4, .int x4), (5, .int x5)]) (hret : ∀ {pc : Nat} {H : Heap} {locs : List Loc} {ls : Array Slot} {u : zSt × zSt}, zDy D A s.heap ((fun u : zSt × zSt => kb a cI cZ u) u) H locs → Q1 u → decode cX0_setSuspects pc = .ok (.return_, 1) → W p l e ({ frames := 0, cells := 0, slots := 0, locals := 0 } : Room) s m args below meth c H locs 0 0 Q (F0 m pc ls [])) (hJ8 : ∀ (x2 : Int64) (x4 : Int32) (x5 : Int32) (u0 : zSt) (u3 : zSt) (H : Heap) (locs : List Loc) (ls : Array Slot), J8 x2 x4 x5 u0 u3 → zDy D A s.heap (kb a cI cZ (u0, u3)) H locs → lv_has ls 6 [(0, .ref (a 0 99)), (1, .ref (a 3 99)), (2, .long x2), (4, .int x4), (5, .int x5)] → W p l e ({ frames := 0, cells := 0, slots := 0, locals := 0 } : Room) s m args below meth c H locs 0 0 Q (F0 m 8 ls [])) (hv : wp_X0_setSuspects_8 J8 Q1 x2 x4 x5 u0 u3) : W p l e ({ frames := 0, cells := 0, slots := 0, locals := 0 } : Room) s m args below meth c H locs 0 0 Q (F0 m 8 ls []) := by
  unfold wp_X0_setSuspects_8 at hv
  obtain ⟨hx, hb, hml, hown, hts, hK, hA⟩ := id C
  refine lv_iload hx hb dX0_setSuspects_8 (lv_at hl 4 rfl) ?_
  refine lv_aload_n hx hb dX0_setSuspects_10 rfl (lv_at hl 1 rfl) ?_
  refine z_get C Y (Cn := RX3) (T := TX3) (N := 9) in_X0_setSuspects_3 rfl (geb_3 ..) 7 (by decide) fl_X0_setSuspects_42 rfl dX0_setSuspects_11 ?_
  refine lv_icmp_ge (tgt := 65) hx hb dX0_setSuspects_14 (by decide) (fun hc => ?_) (fun hc => ?_)
  · have hv := hv.1 hc
    exact hret Y hv dX0_setSuspects_65
  · have hv := hv.2 hc
    refine lv_lload_n hx hb dX0_setSuspects_17 rfl (lv_at hl 2 rfl) ?_
    refine lv_iload hx hb dX0_setSuspects_18 (lv_at hl 4 rfl) ?_
    refine lv_lshr hx hb dX0_setSuspects_20 rfl ?_
    refine lv_lconst (v := 1) hx hb dX0_setSuspects_21 (by decide) ?_
    refine lv_land hx hb dX0_setSuspects_22 ?_
    refine lv_lconst (v := 0) hx hb dX0_setSuspects_23 (by decide) ?_
    refine W.lcmp hx hb dX0_setSuspects_24 ?_
    refine lv_if_eq (tgt := 59) hx hb dX0_setSuspects_25 (by decide) (fun hc => ?_) (fun hc => ?_)
    · have hv := hv.1 hc
      obtain ⟨x5_1, ex5_1, hv⟩ := z_nv hv
      refine lv_iinc (v := x5_1) (lv' := [(5, .int x5_1), (0, .ref (a 0 99)), (1, .ref (a 3 99)), (2, .long x2), (4, .int x4)]) hx hb dX0_setSuspects_59 hl (k := 4) rfl (by rw [ex5_1]; rfl) (by decide) rfl (fun ls hl => ?_)
      refine lv_goto (tgt := 8) hx hb dX0_setSuspects_62 (by decide) ?_
      exact hJ8 _ _ _ _ _ _ _ _ hv Y (lv_sub hl [1, 2, 3, 4, 0] rfl)
    · have hv := hv.2 hc
      refine lv_aload_n hx hb dX0_setSuspects_28 rfl (lv_at hl 0 rfl) ?_
      refine z_get C Y (Cn := RX0) (T := TX0) (N := 5) in_X0_setSuspects_0 rfl (geb_0 ..) 3 (by decide) fl_X0_setSuspects_9 rfl dX0_setSuspects_29 ?_
      refine lv_aload_n hx hb dX0_setSuspects_32 rfl (lv_at hl 0 rfl) ?_
      refine z_get C Y (Cn := RX0) (T := TX0) (N := 5) in_X0_setSuspects_0 rfl (geb_0 ..) 4 (by decide) fl_X0_setSuspects_39 rfl dX0_setSuspects_33 ?_
      refine lv_aload_n hx hb dX0_setSuspects_36 rfl (lv_at hl 1 rfl) ?_
      refine z_get C Y (Cn := RX3) (T := TX3) (N := 9) in_X0_setSuspects_3 rfl (geb_3 ..) 6 (by decide) fl_X0_setSuspects_45 rfl dX0_setSuspects_37 ?_
      refine lv_iload hx hb dX0_setSuspects_40 (lv_at hl 4 rfl) ?_
      obtain ⟨hi, hv⟩ := hv
      refine z_ldI C Y (pab_3_6 ..) hi dX0_setSuspects_42 ?_
      refine lv_iload hx hb dX0_setSuspects_43 (lv_at hl 3 rfl) ?_
      refine lv_iconst (v := (-1)) hx hb dX0_setSuspects_45 (by decide) ?_
      refine lv_ixor hx hb dX0_setSuspects_46 ?_
      refine lv_iand hx hb dX0_setSuspects_47 ?_
      obtain ⟨hi, hv⟩ := hv
      refine z_stI C Y (pab_0_3 ..) (sab_0_3 ..) hi dX0_setSuspects_48 (fun H locs Y => ?_)
      obtain ⟨u0_2, eu0_2, Y, hv⟩ := z_nm (kf := fun z => (kb a cI cZ (z, u3))) Y hv
      refine lv_aload_n hx hb dX0_setSuspects_49 rfl (lv_at hl 0 rfl) ?_
      refine lv_dup hx hb dX0_setSuspects_50 rfl ?_
      refine z_get C Y (Cn := RX0) (T := TX0) (N := 5) in_X0_setSuspects_0 rfl (geb_0 ..) 4 (by decide) fl_X0_setSuspects_39 rfl dX0_setSuspects_51 ?_
      refine lv_iconst (v := 1) hx hb dX0_setSuspects_54 (by decide) ?_
      refine lv_iadd hx hb dX0_setSuspects_55 ?_
      refine z_putI C Y (Cn := RX0) (T := TX0) (N := 5) in_X0_setSuspects_0 rfl tyX0 tyX0_ok nmX0 (geb_0 ..) 4 (by decide) fl_X0_setSuspects_39 rfl (by decide +kernel) (Nat.le_of_ble_eq_true rfl) (sib_0_4 ..) dX0_setSuspects_56 (fun H locs Y => ?_)
      obtain ⟨u0_3, eu0_3, Y, hv⟩ := z_nm (kf := fun z => (kb a cI cZ (z, u3))) Y hv
      obtain ⟨x5_4, ex5_4, hv⟩ := z_nv hv
      refine lv_iinc (v := x5_4) (lv' := [(5, .int x5_4), (0, .ref (a 0 99)), (1, .ref (a 3 99)), (2, .long x2), (4, .int x4)]) hx hb dX0_setSuspects_59 hl (k := 4) rfl (by rw [ex5_4]; rfl) (by decide) rfl (fun ls hl => ?_)
      refine lv_goto (tgt := 8) hx hb dX0_setSuspects_62 (by decide) ?_
      exact hJ8 _ _ _ _ _ _ _ _ hv Y (lv_sub hl [1, 2, 3, 4, 0] rfl)

end
set_option maxHeartbeats 4000000 in
set_option maxRecDepth 100000 in
theorem k_X0_setSuspects (l : Launch) {D : va_G} {cI cZ cJ : ClassId} {a : Nat → Nat → Nat} {Q1 : (zSt × zSt) → Prop} {p2 : Int64} {p4 : Int32} {u0 : zSt} {u3 : zSt} (I8 : Nat → Int64 → Int32 → Int32 → zSt → zSt → Prop)
    (hv : wp_X0_setSuspects_0 (fun x2 x4 x5 u0 u3 => ∃ n : Nat, I8 n x2 x4 x5 u0 u3) Q1 p2 p4 u0 u3)
    (hI8 : ∀ (n : Nat) (x2 : Int64) (x4 : Int32) (x5 : Int32) (u0 : zSt) (u3 : zSt), I8 n x2 x4 x5 u0 u3 → wp_X0_setSuspects_8 (fun x2 x4 x5 u0 u3 => ∃ k : Nat, k < n ∧ I8 k x2 x4 x5 u0 u3) Q1 x2 x4 x5 u0 u3) : zMV l yX0_setSuspects wsX0_setSuspects ({ frames := 0, cells := 0, slots := 0, locals := 0 } : Room) D cI cZ cJ [.ref (a 0 99), .ref (a 3 99), .long p2, .int p4] (kb a cI cZ (u0, u3)) (fun u : zSt × zSt => kb a cI cZ u) Q1 := by
  refine z_ofV (by decide) rfl rfl (Nat.le_of_ble_eq_true rfl) (@fun p e s m args below meth c A Q ls C Y hl hret => ?_)
  have key : ∀ n : Nat, (∀ (x2 : Int64) (x4 : Int32) (x5 : Int32) (u0 : zSt) (u3 : zSt) (H : Heap) (locs : List Loc) (ls : Array Slot), I8 n x2 x4 x5 u0 u3 → zDy D A s.heap (kb a cI cZ (u0, u3)) H locs → lv_has ls 6 [(0, .ref (a 0 99)), (1, .ref (a 3 99)), (2, .long x2), (4, .int x4), (5, .int x5)] → W p l e ({ frames := 0, cells := 0, slots := 0, locals := 0 } : Room) s m args below meth c H locs 0 0 Q (F0 m 8 ls [])) := by
    intro n
    induction n using Nat.strongRecOn with
    | _ n ih =>
      exact fun x2 x4 x5 u0 u3 H locs ls hi Y hl => bk_X0_setSuspects_8 C Y hl hret (fun y0 y1 y2 y3 y4 H locs ls hi Y hl => by obtain ⟨k, hk, hi⟩ := hi; exact (ih k hk) y0 y1 y2 y3 y4 H locs ls hi Y hl) (hI8 n x2 x4 x5 u0 u3 hi)
  exact bk_X0_setSuspects_0 C Y hl hret (fun y0 y1 y2 y3 y4 H locs ls hi Y hl => by obtain ⟨n, hi⟩ := hi; exact (key n) y0 y1 y2 y3 y4 H locs ls hi Y hl) hv
def TX0_setSuspects (Q1 : (zSt × zSt) → Prop) (p2 : Int64) (p4 : Int32) (u0 : zSt) (u3 : zSt) : Prop :=
  ∃ I8 : Nat → Int64 → Int32 → Int32 → zSt → zSt → Prop, (wp_X0_setSuspects_0 (fun x2 x4 x5 u0 u3 => ∃ n : Nat, I8 n x2 x4 x5 u0 u3) Q1 p2 p4 u0 u3) ∧ (∀ (n : Nat) (x2 : Int64) (x4 : Int32) (x5 : Int32) (u0 : zSt) (u3 : zSt), I8 n x2 x4 x5 u0 u3 → wp_X0_setSuspects_8 (fun x2 x4 x5 u0 u3 => ∃ k : Nat, k < n ∧ I8 k x2 x4 x5 u0 u3) Q1 x2 x4 x5 u0 u3)
set_option maxHeartbeats 4000000 in
set_option maxRecDepth 100000 in
theorem c_X0_setSuspects (l : Launch) {D : va_G} {cI cZ cJ : ClassId} {a : Nat → Nat → Nat} {Q1 : (zSt × zSt) → Prop} {p2 : Int64} {p4 : Int32} {u0 : zSt} {u3 : zSt} (hv : TX0_setSuspects Q1 p2 p4 u0 u3) : zMV l yX0_setSuspects wsX0_setSuspects ({ frames := 0, cells := 0, slots := 0, locals := 0 } : Room) D cI cZ cJ [.ref (a 0 99), .ref (a 3 99), .long p2, .int p4] (kb a cI cZ (u0, u3)) (fun u : zSt × zSt => kb a cI cZ u) Q1 := by
  obtain ⟨I8, hv, hI8⟩ := hv
  exact k_X0_setSuspects l I8 hv hI8


theorem in_X0_seek_0 : ∀ w ∈ wsX00, w ∈ wsX0_seek := by first | exact fun w h => List.mem_cons_of_mem _ (List.mem_append_right _ h) | exact fun w h => List.mem_cons_of_mem _ (List.mem_append_left _ (List.mem_append_right _ h)) | decide +kernel
theorem fl_X0_seek_15 : Cond.fieldLink RX0 15 (TX0 0).1 (TX0 0).2.1 (TX0 0).2.2.1 ∈ wsX0_seek := by decide +kernel
theorem fl_X0_seek_19 : Cond.fieldLink RX0 19 (TX0 1).1 (TX0 1).2.1 (TX0 1).2.2.1 ∈ wsX0_seek := by decide +kernel
theorem fl_X0_seek_22 : Cond.fieldLink RX0 22 (TX0 2).1 (TX0 2).2.1 (TX0 2).2.2.1 ∈ wsX0_seek := by decide +kernel
section
variable {p : Program} {l : Launch} {e : Env} {s : State} {m : MethodId} {args : Array Value} {below : List Frame} {meth : Method} {c : Code} {H : Heap} {locs : List Loc} {Q : State → Prop} {D : va_G} {cI cZ cJ : ClassId} {A : Nat → Prop} {ls : Array Slot}
def wp_X0_seek_0 (Q1 : (zSt × zSt) → Prop) (p2 : Int64) (p4 : Int64) (u0 : zSt) (u3 : zSt) : Prop :=
  ∀ u0_1 : zSt, u0_1 = zI u0 0 (-1) → ∀ u0_2 : zSt, u0_2 = zI u0_1 1 0 → ∀ u0_3 : zSt, u0_3 = zI u0_2 2 0 → TX3_lotsOf (fun (r_5 : Int32) (u3_4 : zSt) => TX0_setSuspects (fun (w_11 : zSt × zSt) => TX0_blameMore (fun (u0_9 : zSt) => Q1 (u0_9, w_11.2)) 0 0 0 w_11.1) p2 r_5 u0_3 u3_4) p4 u3

set_option maxHeartbeats 4000000 in
set_option maxRecDepth 100000 in
theorem bk_X0_seek_0 {a : Nat → Nat → Nat} {Q1 : (zSt × zSt) → Prop} {p2 : Int64} {p4 : Int64} {u0 : zSt} {u3 : zSt} (C : zCx p s m args c cX0_seek 6 RX0 wsX0_seek D cI cZ cJ A) (Y : zDy D A s.heap (kb a cI cZ (u0, u3)) H locs) (hl : lv_has ls 6 [(0, .ref (a 0 99)), (1, .ref (a 3 99)), (2, .long p2), (4, .long p4)]) (hret : ∀ {pc : Nat} {H : Heap} {locs : List Loc} {ls : Array Slot} {u : zSt × zSt}, zDy D A s.heap ((fun u : zSt × zSt => kb a cI cZ u) u) H locs → Q1 u → decode cX0_seek pc = .ok (.return_, 1) → W p l e ({ frames := 31, cells := 0, slots := 0, locals := 924 } : Room) s m args below meth c H locs 0 0 Q (F0 m pc ls [])) (hv : wp_X0_seek_0 Q1 p2 p4 u0 u3) : W p l e ({ frames := 31, cells := 0, slots := 0, locals := 924 } : Room) s m args below meth c H locs 0 0 Q (F0 m 0 ls []) := by
  unfold wp_X0_seek_0 at hv
  obtain ⟨hx, hb, hml, hown, hts, hK, hA⟩ := id C
  refine lv_aload_n hx hb dX0_seek_0 rfl (lv_at hl 0 rfl) ?_
  refine lv_iconst (v := (-1)) hx hb dX0_seek_1 (by decide) ?_
  refine z_putI C Y (Cn := RX0) (T := TX0) (N := 5) in_X0_seek_0 rfl tyX0 tyX0_ok nmX0 (geb_0 ..) 0 (by decide) fl_X0_seek_15 rfl (by decide +kernel) (Nat.le_of_ble_eq_true rfl) (sib_0_0 ..) dX0_seek_2 (fun H locs Y => ?_)
  obtain ⟨u0_1, eu0_1, Y, hv⟩ := z_nm (kf := fun z => (kb a cI cZ (z, u3))) Y hv
  refine lv_aload_n hx hb dX0_seek_5 rfl (lv_at hl 0 rfl) ?_
  refine lv_iconst (v := 0) hx hb dX0_seek_6 (by decide) ?_
  refine z_putI C Y (Cn := RX0) (T := TX0) (N := 5) in_X0_seek_0 rfl tyX0 tyX0_ok nmX0 (geb_0 ..) 1 (by decide) fl_X0_seek_19 rfl (by decide +kernel) (Nat.le_of_ble_eq_true rfl) (sib_0_1 ..) dX0_seek_7 (fun H locs Y => ?_)
  obtain ⟨u0_2, eu0_2, Y, hv⟩ := z_nm (kf := fun z => (kb a cI cZ (z, u3))) Y hv
  refine lv_aload_n hx hb dX0_seek_10 rfl (lv_at hl 0 rfl) ?_
  refine lv_iconst (v := 0) hx hb dX0_seek_11 (by decide) ?_
  refine z_putI C Y (Cn := RX0) (T := TX0) (N := 5) in_X0_seek_0 rfl tyX0 tyX0_ok nmX0 (geb_0 ..) 2 (by decide) fl_X0_seek_22 rfl (by decide +kernel) (Nat.le_of_ble_eq_true rfl) (sib_0_2 ..) dX0_seek_12 (fun H locs Y => ?_)
  obtain ⟨u0_3, eu0_3, Y, hv⟩ := z_nm (kf := fun z => (kb a cI cZ (z, u3))) Y hv
  refine lv_aload_n hx hb dX0_seek_15 rfl (lv_at hl 0 rfl) ?_
  refine lv_aload_n hx hb dX0_seek_16 rfl (lv_at hl 1 rfl) ?_
  refine lv_lload_n hx hb dX0_seek_17 rfl (lv_at hl 2 rfl) ?_
  refine lv_aload_n hx hb dX0_seek_18 rfl (lv_at hl 1 rfl) ?_
  refine lv_lload hx hb dX0_seek_19 (lv_at hl 3 rfl) ?_
  refine z_callVi C Y (c_X3_lotsOf l hv) (frb_3 ..) (cwV 1 hts gX0_seek_X3_lotsOf rfl rfl rfl (by decide +kernel) ⟨(Nat.le_of_ble_eq_true rfl), (Nat.le_of_ble_eq_true rfl)⟩) (ge3_3 ..) rfl rfl rfl hl.1 rfl (Nat.le_of_ble_eq_true rfl) dX0_seek_21 ⟨Nat.zero_le _, Nat.zero_le _⟩ (fun r_5 u3_4 H locs Y hv => ?_)
  refine z_callVv C Y (c_X0_setSuspects l hv) (zFr.self _ _) (cwV 3 hts gX0_seek_X0_setSuspects rfl rfl rfl (by decide +kernel) ⟨(Nat.le_of_ble_eq_true rfl), (Nat.le_of_ble_eq_true rfl)⟩) (geb_0 ..) rfl rfl rfl hl.1 rfl (Nat.le_of_ble_eq_true rfl) dX0_seek_24 ⟨Nat.zero_le _, Nat.zero_le _⟩ (fun ⟨u0_6, u3_7⟩ H locs Y hv => ?_)
  refine lv_aload_n hx hb dX0_seek_27 rfl (lv_at hl 0 rfl) ?_
  refine lv_iconst (v := 0) hx hb dX0_seek_28 (by decide) ?_
  refine lv_iconst (v := 0) hx hb dX0_seek_29 (by decide) ?_
  refine lv_iconst (v := 0) hx hb dX0_seek_30 (by decide) ?_
  refine z_callVv C Y (c_X0_blameMore l hv) (frb_0 ..) (cwV 3 hts gX0_seek_X0_blameMore rfl rfl rfl (by decide +kernel) ⟨(Nat.le_of_ble_eq_true rfl), (Nat.le_of_ble_eq_true rfl)⟩) (ge0_0 ..) rfl rfl rfl hl.1 rfl (Nat.le_of_ble_eq_true rfl) dX0_seek_31 ⟨Nat.zero_le _, Nat.zero_le _⟩ (fun u0_9 H locs Y hv => ?_)
  exact hret Y hv dX0_seek_34

end
abbrev TX0_seek := wp_X0_seek_0
set_option maxHeartbeats 4000000 in
set_option maxRecDepth 100000 in
theorem c_X0_seek (l : Launch) {D : va_G} {cI cZ cJ : ClassId} {a : Nat → Nat → Nat} {Q1 : (zSt × zSt) → Prop} {p2 : Int64} {p4 : Int64} {u0 : zSt} {u3 : zSt} (hv : wp_X0_seek_0 Q1 p2 p4 u0 u3) : zMV l yX0_seek wsX0_seek ({ frames := 31, cells := 0, slots := 0, locals := 924 } : Room) D cI cZ cJ [.ref (a 0 99), .ref (a 3 99), .long p2, .long p4] (kb a cI cZ (u0, u3)) (fun u : zSt × zSt => kb a cI cZ u) Q1 :=
  z_ofV (by decide) rfl rfl (Nat.le_of_ble_eq_true rfl) (fun C Y hl hret => bk_X0_seek_0 C Y hl hret hv)


