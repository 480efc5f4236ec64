theorem in_X2_putSlats_2 : ∀ w ∈ wsX20, w ∈ wsX2_putSlats := by first | exact fun w h => List.mem_cons_of_mem _ (List.mem_append_right _ h) | exact fun w h => List.mem_cons_of_mem _ (List.mem_append_left _ (List.mem_append_right _ h)) | decide +kernel
theorem fl_X2_putSlats_9 : Cond.fieldLink RX2 9 (TX2 0).1 (TX2 0).2.1 (TX2 0).2.2.1 ∈ wsX2_putSlats := by decide +kernel
theorem fl_X2_putSlats_27 : Cond.fieldLink RX2 27 (TX2 1).1 (TX2 1).2.1 (TX2 1).2.2.1 ∈ wsX2_putSlats := by decide +kernel
section
variable {p : Program} {l : Launch} {e : Env} {s : State} {m : MethodId} {args : Array Value} {below : List Frame} {meth : Method} {c : Code} {H : Heap} {locs : List Loc} {Q : State → Prop} {D : va_G} {cI cZ cJ : ClassId} {A : Nat → Prop} {ls : Array Slot}
def wp_X2_putSlats_0 (Q1 : Int32 → zSt → Prop) (p1 : Int32) (p2 : Int32) (u2 : zSt) : Prop :=
  vp_in p1 10 ∧ (∀ u2_1 : zSt, u2_1 = zI u2 1 ((u2.1 1) + (p2 - (u2.2 0 p1.toNatClampNeg))) → vp_in p1 10 ∧ (∀ u2_2 : zSt, u2_2 = zA u2_1 0 (upd (u2_1.2 0) p1.toNatClampNeg p2) → Q1 (u2_2.1 1) u2_2))

set_option maxHeartbeats 4000000 in
set_option maxRecDepth 100000 in
theorem bk_X2_putSlats_0 {a : Nat → Nat → Nat} {Q1 : Int32 → zSt → Prop} {p1 : Int32} {p2 : Int32} {u2 : zSt} (C : zCx p s m args c cX2_putSlats 3 RX2 wsX2_putSlats D cI cZ cJ A) (Y : zDy D A s.heap (k2 a cI cZ u2) H locs) (hl : lv_has ls 3 [(0, .ref (a 2 99)), (1, .int p1), (2, .int p2)]) (hret : ∀ {pc : Nat} {H : Heap} {locs : List Loc} {ls : Array Slot} {r : Int32} {u : zSt}, zDy D A s.heap ((fun u : zSt => k2 a cI cZ u) u) H locs → Q1 r u → decode cX2_putSlats pc = .ok (.ireturn, 1) → W p l e ({ frames := 0, cells := 0, slots := 0, locals := 0 } : Room) s m args below meth c H locs 0 0 Q (F0 m pc ls [.int r])) (hv : wp_X2_putSlats_0 Q1 p1 p2 u2) : W p l e ({ frames := 0, cells := 0, slots := 0, locals := 0 } : Room) s m args below meth c H locs 0 0 Q (F0 m 0 ls []) := by
  unfold wp_X2_putSlats_0 at hv
  obtain ⟨hx, hb, hml, hown, hts, hK, hA⟩ := id C
  refine lv_aload_n hx hb dX2_putSlats_0 rfl (lv_at hl 0 rfl) ?_
  refine lv_dup hx hb dX2_putSlats_1 rfl ?_
  refine z_get C Y (Cn := RX2) (T := TX2) (N := 7) in_X2_putSlats_2 rfl (ge2_2 ..) 1 (by decide) fl_X2_putSlats_27 rfl dX2_putSlats_2 ?_
  refine lv_iload_n hx hb dX2_putSlats_5 rfl (lv_at hl 2 rfl) ?_
  refine lv_aload_n hx hb dX2_putSlats_6 rfl (lv_at hl 0 rfl) ?_
  refine z_get C Y (Cn := RX2) (T := TX2) (N := 7) in_X2_putSlats_2 rfl (ge2_2 ..) 0 (by decide) fl_X2_putSlats_9 rfl dX2_putSlats_7 ?_
  refine lv_iload_n hx hb dX2_putSlats_10 rfl (lv_at hl 1 rfl) ?_
  obtain ⟨hi, hv⟩ := hv
  refine z_ldI C Y (pa2_2_0 ..) hi dX2_putSlats_11 ?_
  refine lv_isub hx hb dX2_putSlats_12 ?_
  refine lv_iadd hx hb dX2_putSlats_13 ?_
  refine z_putI C Y (Cn := RX2) (T := TX2) (N := 7) in_X2_putSlats_2 rfl tyX2 tyX2_ok nmX2 (ge2_2 ..) 1 (by decide) fl_X2_putSlats_27 rfl (by decide +kernel) (Nat.le_of_ble_eq_true rfl) (si2_2_1 ..) dX2_putSlats_14 (fun H locs Y => ?_)
  obtain ⟨u2_1, eu2_1, Y, hv⟩ := z_nm (kf := fun z => (k2 a cI cZ z)) Y hv
  refine lv_aload_n hx hb dX2_putSlats_17 rfl (lv_at hl 0 rfl) ?_
  refine z_get C Y (Cn := RX2) (T := TX2) (N := 7) in_X2_putSlats_2 rfl (ge2_2 ..) 0 (by decide) fl_X2_putSlats_9 rfl dX2_putSlats_18 ?_
  refine lv_iload_n hx hb dX2_putSlats_21 rfl (lv_at hl 1 rfl) ?_
  refine lv_iload_n hx hb dX2_putSlats_22 rfl (lv_at hl 2 rfl) ?_
  obtain ⟨hi, hv⟩ := hv
  refine z_stI C Y (pa2_2_0 ..) (sa2_2_0 ..) hi dX2_putSlats_23 (fun H locs Y => ?_)
  obtain ⟨u2_2, eu2_2, Y, hv⟩ := z_nm (kf := fun z => (k2 a cI cZ z)) Y hv
  refine lv_aload_n hx hb dX2_putSlats_24 rfl (lv_at hl 0 rfl) ?_
  refine z_get C Y (Cn := RX2) (T := TX2) (N := 7) in_X2_putSlats_2 rfl (ge2_2 ..) 1 (by decide) fl_X2_putSlats_27 rfl dX2_putSlats_25 ?_
  exact hret Y hv dX2_putSlats_28

end
abbrev TX2_putSlats := wp_X2_putSlats_0
set_option maxHeartbeats 4000000 in
set_option maxRecDepth 100000 in
theorem c_X2_putSlats (l : Launch) {D : va_G} {cI cZ cJ : ClassId} {a : Nat → Nat → Nat} {Q1 : Int32 → zSt → Prop} {p1 : Int32} {p2 : Int32} {u2 : zSt} (hv : wp_X2_putSlats_0 Q1 p1 p2 u2) : zMI l yX2_putSlats wsX2_putSlats ({ frames := 0, cells := 0, slots := 0, locals := 0 } : Room) D cI cZ cJ [.ref (a 2 99), .int p1, .int p2] (k2 a cI cZ u2) (fun u : zSt => k2 a cI cZ u) Q1 :=
  z_ofI (by decide) rfl rfl (Nat.le_of_ble_eq_true rfl) (fun C Y hl hret => bk_X2_putSlats_0 C Y hl hret hv)


theorem in_X2_add_2 : ∀ w ∈ wsX20, w ∈ wsX2_add := by first | exact fun w h => List.mem_cons_of_mem _ (List.mem_append_right _ h) | exact fun w h => List.mem_cons_of_mem _ (List.mem_append_left _ (List.mem_append_right _ h)) | decide +kernel
theorem fl_X2_add_15 : Cond.fieldLink RX2 15 (TX2 2).1 (TX2 2).2.1 (TX2 2).2.2.1 ∈ wsX2_add := by decide +kernel
theorem fl_X2_add_18 : Cond.fieldLink RX2 18 (TX2 3).1 (TX2 3).2.1 (TX2 3).2.2.1 ∈ wsX2_add := by decide +kernel
theorem fl_X2_add_21 : Cond.fieldLink RX2 21 (TX2 4).1 (TX2 4).2.1 (TX2 4).2.2.1 ∈ wsX2_add := by decide +kernel
theorem fl_X2_add_31 : Cond.fieldLink RX2 31 (TX2 5).1 (TX2 5).2.1 (TX2 5).2.2.1 ∈ wsX2_add := by decide +kernel
section
variable {p : Program} {l : Launch} {e : Env} {s : State} {m : MethodId} {args : Array Value} {below : List Frame} {meth : Method} {c : Code} {H : Heap} {locs : List Loc} {Q : State → Prop} {D : va_G} {cI cZ cJ : ClassId} {A : Nat → Prop} {ls : Array Slot}
def wp_X2_add_0 (J6 : Int32 → Int32 → Int32 → Int32 → zSt → Prop) (Q1 : Int32 → zSt → Prop) (p1 : Int32) (p2 : Int32) (p3 : Int32) (u2 : zSt) : Prop :=
  ∀ x4_1 : Int32, x4_1 = (u2.1 5) → J6 p1 p2 p3 x4_1 u2

set_option maxHeartbeats 4000000 in
set_option maxRecDepth 100000 in
theorem bk_X2_add_0 {a : Nat → Nat → Nat} {J6 : Int32 → Int32 → Int32 → Int32 → zSt → Prop} {Q1 : Int32 → zSt → Prop} {p1 : Int32} {p2 : Int32} {p3 : Int32} {u2 : zSt} (C : zCx p s m args c cX2_add 5 RX2 wsX2_add D cI cZ cJ A) (Y : zDy D A s.heap (k2 a cI cZ u2) H locs) (hl : lv_has ls 5 [(0, .ref (a 2 99)), (1, .int p1), (2, .int p2), (3, .int p3)]) (hret : ∀ {pc : Nat} {H : Heap} {locs : List Loc} {ls : Array Slot} {r : Int32} {u : zSt}, zDy D A s.heap ((fun u : zSt => k2 a cI cZ u) u) H locs → Q1 r u → decode cX2_add pc = .ok (.ireturn, 1) → W p l e ({ frames := 0, cells := 0, slots := 0, locals := 0 } : Room) s m args below meth c H locs 0 0 Q (F0 m pc ls [.int r])) (hJ6 : ∀ (x1 : Int32) (x2 : Int32) (x3 : Int32) (x4 : Int32) (u2 : zSt) (H : Heap) (locs : List Loc) (ls : Array Slot), J6 x1 x2 x3 x4 u2 → zDy D A s.heap (k2 a cI cZ u2) H locs → lv_has ls 5 [(0, .ref (a 2 99)), (1, .int x1), (2, .int x2), (3, .int x3), (4, .int x4)] → W p l e ({ frames := 0, cells := 0, slots := 0, locals := 0 } : Room) s m args below meth c H locs 0 0 Q (F0 m 6 ls [])) (hv : wp_X2_add_0 J6 Q1 p1 p2 p3 u2) : W p l e ({ frames := 0, cells := 0, slots := 0, locals := 0 } : Room) s m args below meth c H locs 0 0 Q (F0 m 0 ls []) := by
  unfold wp_X2_add_0 at hv
  obtain ⟨hx, hb, hml, hown, hts, hK, hA⟩ := id C
  refine lv_aload_n hx hb dX2_add_0 rfl (lv_at hl 0 rfl) ?_
  refine z_get C Y (Cn := RX2) (T := TX2) (N := 7) in_X2_add_2 rfl (ge2_2 ..) 5 (by decide) fl_X2_add_31 rfl dX2_add_1 ?_
  refine z_topi hv (fun x4_1 ex4_1 hv => ?_)
  refine lv_istore (lv' := [(4, .int x4_1), (0, .ref (a 2 99)), (1, .int p1), (2, .int p2), (3, .int p3)]) hx hb dX2_add_4 hl (by decide) rfl (fun ls hl => ?_)
  exact hJ6 _ _ _ _ _ _ _ _ hv Y (lv_sub hl [1, 2, 3, 4, 0] rfl)

def wp_X2_add_78 (J6 : Int32 → Int32 → Int32 → Int32 → zSt → Prop) (Q1 : Int32 → zSt → Prop) (x1 : Int32) (x2 : Int32) (x3 : Int32) (x4 : Int32) (u2 : zSt) : Prop :=
  vp_in x4 6 ∧ (∀ u2_1 : zSt, u2_1 = zA u2 2 (upd (u2.2 2) x4.toNatClampNeg x1) → vp_in x4 6 ∧ (∀ u2_2 : zSt, u2_2 = zA u2_1 3 (upd (u2_1.2 3) x4.toNatClampNeg x2) → vp_in x4 6 ∧ (∀ u2_3 : zSt, u2_3 = zA u2_2 4 (upd (u2_2.2 4) x4.toNatClampNeg x3) → ∀ u2_4 : zSt, u2_4 = zI u2_3 5 ((u2_3.1 5) + 1) → Q1 ((u2_4.1 5) - 1) u2_4)))

set_option maxHeartbeats 4000000 in
set_option maxRecDepth 100000 in
theorem bk_X2_add_78 {a : Nat → Nat → Nat} {J6 : Int32 → Int32 → Int32 → Int32 → zSt → Prop} {Q1 : Int32 → zSt → Prop} {x1 : Int32} {x2 : Int32} {x3 : Int32} {x4 : Int32} {u2 : zSt} (C : zCx p s m args c cX2_add 5 RX2 wsX2_add D cI cZ cJ A) (Y : zDy D A s.heap (k2 a cI cZ u2) H locs) (hl : lv_has ls 5 [(0, .ref (a 2 99)), (1, .int x1), (2, .int x2), (3, .int x3), (4, .int x4)]) (hret : ∀ {pc : Nat} {H : Heap} {locs : List Loc} {ls : Array Slot} {r : Int32} {u : zSt}, zDy D A s.heap ((fun u : zSt => k2 a cI cZ u) u) H locs → Q1 r u → decode cX2_add pc = .ok (.ireturn, 1) → W p l e ({ frames := 0, cells := 0, slots := 0, locals := 0 } : Room) s m args below meth c H locs 0 0 Q (F0 m pc ls [.int r])) (hJ6 : ∀ (x1 : Int32) (x2 : Int32) (x3 : Int32) (x4 : Int32) (u2 : zSt) (H : Heap) (locs : List Loc) (ls : Array Slot), J6 x1 x2 x3 x4 u2 → zDy D A s.heap (k2 a cI cZ u2) H locs → lv_has ls 5 [(0, .ref (a 2 99)), (1, .int x1), (2, .int x2), (3, .int x3), (4, .int x4)] → W p l e ({ frames := 0, cells := 0, slots := 0, locals := 0 } : Room) s m args below meth c H locs 0 0 Q (F0 m 6 ls [])) (hv : wp_X2_add_78 J6 Q1 x1 x2 x3 x4 u2) : W p l e ({ frames := 0, cells := 0, slots := 0, locals := 0 } : Room) s m args below meth c H locs 0 0 Q (F0 m 78 ls []) := by
  unfold wp_X2_add_78 at hv
  obtain ⟨hx, hb, hml, hown, hts, hK, hA⟩ := id C
  refine lv_aload_n hx hb dX2_add_78 rfl (lv_at hl 0 rfl) ?_
  refine z_get C Y (Cn := RX2) (T := TX2) (N := 7) in_X2_add_2 rfl (ge2_2 ..) 2 (by decide) fl_X2_add_15 rfl dX2_add_79 ?_
  refine lv_iload hx hb dX2_add_82 (lv_at hl 4 rfl) ?_
  refine lv_iload_n hx hb dX2_add_84 rfl (lv_at hl 1 rfl) ?_
  obtain ⟨hi, hv⟩ := hv
  refine z_stI C Y (pa2_2_2 ..) (sa2_2_2 ..) hi dX2_add_85 (fun H locs Y => ?_)
  obtain ⟨u2_1, eu2_1, Y, hv⟩ := z_nm (kf := fun z => (k2 a cI cZ z)) Y hv
  refine lv_aload_n hx hb dX2_add_86 rfl (lv_at hl 0 rfl) ?_
  refine z_get C Y (Cn := RX2) (T := TX2) (N := 7) in_X2_add_2 rfl (ge2_2 ..) 3 (by decide) fl_X2_add_18 rfl dX2_add_87 ?_
  refine lv_iload hx hb dX2_add_90 (lv_at hl 4 rfl) ?_
  refine lv_iload_n hx hb dX2_add_92 rfl (lv_at hl 2 rfl) ?_
  obtain ⟨hi, hv⟩ := hv
  refine z_stI C Y (pa2_2_3 ..) (sa2_2_3 ..) hi dX2_add_93 (fun H locs Y => ?_)
  obtain ⟨u2_2, eu2_2, Y, hv⟩ := z_nm (kf := fun z => (k2 a cI cZ z)) Y hv
  refine lv_aload_n hx hb dX2_add_94 rfl (lv_at hl 0 rfl) ?_
  refine z_get C Y (Cn := RX2) (T := TX2) (N := 7) in_X2_add_2 rfl (ge2_2 ..) 4 (by decide) fl_X2_add_21 rfl dX2_add_95 ?_
  refine lv_iload hx hb dX2_add_98 (lv_at hl 4 rfl) ?_
  refine lv_iload_n hx hb dX2_add_100 rfl (lv_at hl 3 rfl) ?_
  obtain ⟨hi, hv⟩ := hv
  refine z_stI C Y (pa2_2_4 ..) (sa2_2_4 ..) hi dX2_add_101 (fun H locs Y => ?_)
  obtain ⟨u2_3, eu2_3, Y, hv⟩ := z_nm (kf := fun z => (k2 a cI cZ z)) Y hv
  refine lv_aload_n hx hb dX2_add_102 rfl (lv_at hl 0 rfl) ?_
  refine lv_dup hx hb dX2_add_103 rfl ?_
  refine z_get C Y (Cn := RX2) (T := TX2) (N := 7) in_X2_add_2 rfl (ge2_2 ..) 5 (by decide) fl_X2_add_31 rfl dX2_add_104 ?_
  refine lv_iconst (v := 1) hx hb dX2_add_107 (by decide) ?_
  refine lv_iadd hx hb dX2_add_108 ?_
  refine z_putI C Y (Cn := RX2) (T := TX2) (N := 7) in_X2_add_2 rfl tyX2 tyX2_ok nmX2 (ge2_2 ..) 5 (by decide) fl_X2_add_31 rfl (by decide +kernel) (Nat.le_of_ble_eq_true rfl) (si2_2_5 ..) dX2_add_109 (fun H locs Y => ?_)
  obtain ⟨u2_4, eu2_4, Y, hv⟩ := z_nm (kf := fun z => (k2 a cI cZ z)) Y hv
  refine lv_aload_n hx hb dX2_add_112 rfl (lv_at hl 0 rfl) ?_
  refine z_get C Y (Cn := RX2) (T := TX2) (N := 7) in_X2_add_2 rfl (ge2_2 ..) 5 (by decide) fl_X2_add_31 rfl dX2_add_113 ?_
  refine lv_iconst (v := 1) hx hb dX2_add_116 (by decide) ?_
  refine lv_isub hx hb dX2_add_117 ?_
  exact hret Y hv dX2_add_118

def wp_X2_add_6 (J6 : Int32 → Int32 → Int32 → Int32 → zSt → Prop) (Q1 : Int32 → zSt → Prop) (x1 : Int32) (x2 : Int32) (x3 : Int32) (x4 : Int32) (u2 : zSt) : Prop :=
  (x4 ≤ (0 : Int32) → wp_X2_add_78 J6 Q1 x1 x2 x3 x4 u2) ∧ (¬ x4 ≤ (0 : Int32) → vp_in (x4 - 1) 6 ∧ ((x2 ≤ (u2.2 3 (x4 - 1).toNatClampNeg) → wp_X2_add_78 J6 Q1 x1 x2 x3 x4 u2) ∧ (¬ x2 ≤ (u2.2 3 (x4 - 1).toNatClampNeg) → vp_in (x4 - 1) 6 ∧ (vp_in x4 6 ∧ (∀ u2_1 : zSt, u2_1 = zA u2 2 (upd (u2.2 2) x4.toNatClampNeg (u2.2 2 (x4 - 1).toNatClampNeg)) → vp_in (x4 - 1) 6 ∧ (vp_in x4 6 ∧ (∀ u2_2 : zSt, u2_2 = zA u2_1 3 (upd (u2_1.2 3) x4.toNatClampNeg (u2_1.2 3 (x4 - 1).toNatClampNeg)) → vp_in (x4 - 1) 6 ∧ (vp_in x4 6 ∧ (∀ u2_3 : zSt, u2_3 = zA u2_2 4 (upd (u2_2.2 4) x4.toNatClampNeg (u2_2.2 4 (x4 - 1).toNatClampNeg)) → ∀ x4_4 : Int32, x4_4 = x4 + (-1) → J6 x1 x2 x3 x4_4 u2_3)))))))))

set_option maxHeartbeats 4000000 in
set_option maxRecDepth 100000 in
theorem bk_X2_add_6 {a : Nat → Nat → Nat} {J6 : Int32 → Int32 → Int32 → Int32 → zSt → Prop} {Q1 : Int32 → zSt → Prop} {x1 : Int32} {x2 : Int32} {x3 : Int32} {x4 : Int32} {u2 : zSt} (C : zCx p s m args c cX2_add 5 RX2 wsX2_add D cI cZ cJ A) (Y : zDy D A s.heap (k2 a cI cZ u2) H locs) (hl : lv_has ls 5 [(0, .ref (a 2 99)), (1, .int x1), (2, .int x2), (3, .int x3), (4, .int x4)]) (hret : ∀ {pc : Nat} {H : Heap} {locs : List Loc} {ls : Array Slot} {r : Int32} {u : zSt}, zDy D A s.heap ((fun u : zSt => k2 a cI cZ u) u) H locs → Q1 r u → decode cX2_add pc = .ok (.ireturn, 1) → W p l e ({ frames := 0, cells := 0, slots := 0, locals := 0 } : Room) s m args below meth c H locs 0 0 Q (F0 m pc ls [.int r])) (hJ6 : ∀ (x1 : Int32) (x2 : Int32) (x3 : Int32) (x4 : Int32) (u2 : zSt) (H : Heap) (locs : List Loc) (ls : Array Slot), J6 x1 x2 x3 x4 u2 → zDy D A s.heap (k2 a cI cZ u2) H locs → lv_has ls 5 [(0, .ref (a 2 99)), (1, .int x1), (2, .int x2), (3, .int x3), (4, .int x4)] → W p l e ({ frames := 0, cells := 0, slots := 0, locals := 0 } : Room) s m args below meth c H locs 0 0 Q (F0 m 6 ls [])) (hv : wp_X2_add_6 J6 Q1 x1 x2 x3 x4 u2) : W p l e ({ frames := 0, cells := 0, slots := 0, locals := 0 } : Room) s m args below meth c H locs 0 0 Q (F0 m 6 ls []) := by
  unfold wp_X2_add_6 at hv
  obtain ⟨hx, hb, hml, hown, hts, hK, hA⟩ := id C
  refine lv_iload hx hb dX2_add_6 (lv_at hl 4 rfl) ?_
  refine lv_if_le (tgt := 78) hx hb dX2_add_8 (by decide) (fun hc => ?_) (fun hc => ?_)
  · have hv := hv.1 hc
    exact bk_X2_add_78 C Y (lv_sub hl [0, 1, 2, 3, 4] rfl) hret hJ6 hv
  · have hv := hv.2 hc
    refine lv_aload_n hx hb dX2_add_11 rfl (lv_at hl 0 rfl) ?_
    refine z_get C Y (Cn := RX2) (T := TX2) (N := 7) in_X2_add_2 rfl (ge2_2 ..) 3 (by decide) fl_X2_add_18 rfl dX2_add_12 ?_
    refine lv_iload hx hb dX2_add_15 (lv_at hl 4 rfl) ?_
    refine lv_iconst (v := 1) hx hb dX2_add_17 (by decide) ?_
    refine lv_isub hx hb dX2_add_18 ?_
    obtain ⟨hi, hv⟩ := hv
    refine z_ldI C Y (pa2_2_3 ..) hi dX2_add_19 ?_
    refine lv_iload_n hx hb dX2_add_20 rfl (lv_at hl 2 rfl) ?_
    refine lv_icmp_ge (tgt := 78) hx hb dX2_add_21 (by decide) (fun hc => ?_) (fun hc => ?_)
    · have hv := hv.1 hc
      exact bk_X2_add_78 C Y (lv_sub hl [0, 1, 2, 3, 4] rfl) hret hJ6 hv
    · have hv := hv.2 hc
      refine lv_aload_n hx hb dX2_add_24 rfl (lv_at hl 0 rfl) ?_
      refine z_get C Y (Cn := RX2) (T := TX2) (N := 7) in_X2_add_2 rfl (ge2_2 ..) 2 (by decide) fl_X2_add_15 rfl dX2_add_25 ?_
      refine lv_iload hx hb dX2_add_28 (lv_at hl 4 rfl) ?_
      refine lv_aload_n hx hb dX2_add_30 rfl (lv_at hl 0 rfl) ?_
      refine z_get C Y (Cn := RX2) (T := TX2) (N := 7) in_X2_add_2 rfl (ge2_2 ..) 2 (by decide) fl_X2_add_15 rfl dX2_add_31 ?_
      refine lv_iload hx hb dX2_add_34 (lv_at hl 4 rfl) ?_
      refine lv_iconst (v := 1) hx hb dX2_add_36 (by decide) ?_
      refine lv_isub hx hb dX2_add_37 ?_
      obtain ⟨hi, hv⟩ := hv
      refine z_ldI C Y (pa2_2_2 ..) hi dX2_add_38 ?_
      obtain ⟨hi, hv⟩ := hv
      refine z_stI C Y (pa2_2_2 ..) (sa2_2_2 ..) hi dX2_add_39 (fun H locs Y => ?_)
      obtain ⟨u2_1, eu2_1, Y, hv⟩ := z_nm (kf := fun z => (k2 a cI cZ z)) Y hv
      refine lv_aload_n hx hb dX2_add_40 rfl (lv_at hl 0 rfl) ?_
      refine z_get C Y (Cn := RX2) (T := TX2) (N := 7) in_X2_add_2 rfl (ge2_2 ..) 3 (by decide) fl_X2_add_18 rfl dX2_add_41 ?_
      refine lv_iload hx hb dX2_add_44 (lv_at hl 4 rfl) ?_
      refine lv_aload_n hx hb dX2_add_46 rfl (lv_at hl 0 rfl) ?_
      refine z_get C Y (Cn := RX2) (T := TX2) (N := 7) in_X2_add_2 rfl (ge2_2 ..) 3 (by decide) fl_X2_add_18 rfl dX2_add_47 ?_
      refine lv_iload hx hb dX2_add_50 (lv_at hl 4 rfl) ?_
      refine lv_iconst (v := 1) hx hb dX2_add_52 (by decide) ?_
      refine lv_isub hx hb dX2_add_53 ?_
      obtain ⟨hi, hv⟩ := hv
      refine z_ldI C Y (pa2_2_3 ..) hi dX2_add_54 ?_
      obtain ⟨hi, hv⟩ := hv
      refine z_stI C Y (pa2_2_3 ..) (sa2_2_3 ..) hi dX2_add_55 (fun H locs Y => ?_)
      obtain ⟨u2_2, eu2_2, Y, hv⟩ := z_nm (kf := fun z => (k2 a cI cZ z)) Y hv
      refine lv_aload_n hx hb dX2_add_56 rfl (lv_at hl 0 rfl) ?_
      refine z_get C Y (Cn := RX2) (T := TX2) (N := 7) in_X2_add_2 rfl (ge2_2 ..) 4 (by decide) fl_X2_add_21 rfl dX2_add_57 ?_
      refine lv_iload hx hb dX2_add_60 (lv_at hl 4 rfl) ?_
      refine lv_aload_n hx hb dX2_add_62 rfl (lv_at hl 0 rfl) ?_
      refine z_get C Y (Cn := RX2) (T := TX2) (N := 7) in_X2_add_2 rfl (ge2_2 ..) 4 (by decide) fl_X2_add_21 rfl dX2_add_63 ?_
      refine lv_iload hx hb dX2_add_66 (lv_at hl 4 rfl) ?_
      refine lv_iconst (v := 1) hx hb dX2_add_68 (by decide) ?_
      refine lv_isub hx hb dX2_add_69 ?_
      obtain ⟨hi, hv⟩ := hv
      refine z_ldI C Y (pa2_2_4 ..) hi dX2_add_70 ?_
      obtain ⟨hi, hv⟩ := hv
      refine z_stI C Y (pa2_2_4 ..) (sa2_2_4 ..) hi dX2_add_71 (fun H locs Y => ?_)
      obtain ⟨u2_3, eu2_3, Y, hv⟩ := z_nm (kf := fun z => (k2 a cI cZ z)) Y hv
      obtain ⟨x4_4, ex4_4, hv⟩ := z_nv hv
      refine lv_iinc (v := x4_4) (lv' := [(4, .int x4_4), (0, .ref (a 2 99)), (1, .int x1), (2, .int x2), (3, .int x3)]) hx hb dX2_add_72 hl (k := 4) rfl (by rw [ex4_4]; rfl) (by decide) rfl (fun ls hl => ?_)
      refine lv_goto (tgt := 6) hx hb dX2_add_75 (by decide) ?_
      exact hJ6 _ _ _ _ _ _ _ _ hv Y (lv_sub hl [1, 2, 3, 4, 0] rfl)

end
set_option maxHeartbeats 4000000 in
set_option maxRecDepth 100000 in
theorem k_X2_add (l : Launch) {D : va_G} {cI cZ cJ : ClassId} {a : Nat → Nat → Nat} {Q1 : Int32 → zSt → Prop} {p1 : Int32} {p2 : Int32} {p3 : Int32} {u2 : zSt} (I6 : Nat → Int32 → Int32 → Int32 → Int32 → zSt → Prop)
    (hv : wp_X2_add_0 (fun x1 x2 x3 x4 u2 => ∃ n : Nat, I6 n x1 x2 x3 x4 u2) Q1 p1 p2 p3 u2)
    (hI6 : ∀ (n : Nat) (x1 : Int32) (x2 : Int32) (x3 : Int32) (x4 : Int32) (u2 : zSt), I6 n x1 x2 x3 x4 u2 → wp_X2_add_6 (fun x1 x2 x3 x4 u2 => ∃ k : Nat, k < n ∧ I6 k x1 x2 x3 x4 u2) Q1 x1 x2 x3 x4 u2) : zMI l yX2_add wsX2_add ({ frames := 0, cells := 0, slots := 0, locals := 0 } : Room) D cI cZ cJ [.ref (a 2 99), .int p1, .int p2, .int p3] (k2 a cI cZ u2) (fun u : zSt => k2 a cI cZ u) Q1 := by
  refine z_ofI (by decide) rfl rfl (Nat.le_of_ble_eq_true rfl) (@fun p e s m args below meth c A Q ls C Y hl hret => ?_)
  have key : ∀ n : Nat, (∀ (x1 : Int32) (x2 : Int32) (x3 : Int32) (x4 : Int32) (u2 : zSt) (H : Heap) (locs : List Loc) (ls : Array Slot), I6 n x1 x2 x3 x4 u2 → zDy D A s.heap (k2 a cI cZ u2) H locs → lv_has ls 5 [(0, .ref (a 2 99)), (1, .int x1), (2, .int x2), (3, .int x3), (4, .int x4)] → W p l e ({ frames := 0, cells := 0, slots := 0, locals := 0 } : Room) s m args below meth c H locs 0 0 Q (F0 m 6 ls [])) := by
    intro n
    induction n using Nat.strongRecOn with
    | _ n ih =>
      exact fun x1 x2 x3 x4 u2 H locs ls hi Y hl => bk_X2_add_6 C Y hl hret (fun y0 y1 y2 y3 y4 H locs ls hi Y hl => by obtain ⟨k, hk, hi⟩ := hi; exact (ih k hk) y0 y1 y2 y3 y4 H locs ls hi Y hl) (hI6 n x1 x2 x3 x4 u2 hi)
  exact bk_X2_add_0 C Y hl hret (fun y0 y1 y2 y3 y4 H locs ls hi Y hl => by obtain ⟨n, hi⟩ := hi; exact (key n) y0 y1 y2 y3 y4 H locs ls hi Y hl) hv
def TX2_add (Q1 : Int32 → zSt → Prop) (p1 : Int32) (p2 : Int32) (p3 : Int32) (u2 : zSt) : Prop :=
  ∃ I6 : Nat → Int32 → Int32 → Int32 → Int32 → zSt → Prop, (wp_X2_add_0 (fun x1 x2 x3 x4 u2 => ∃ n : Nat, I6 n x1 x2 x3 x4 u2) Q1 p1 p2 p3 u2) ∧ (∀ (n : Nat) (x1 : Int32) (x2 : Int32) (x3 : Int32) (x4 : Int32) (u2 : zSt), I6 n x1 x2 x3 x4 u2 → wp_X2_add_6 (fun x1 x2 x3 x4 u2 => ∃ k : Nat, k < n ∧ I6 k x1 x2 x3 x4 u2) Q1 x1 x2 x3 x4 u2)
set_option maxHeartbeats 4000000 in
set_option maxRecDepth 100000 in
theorem c_X2_add (l : Launch) {D : va_G} {cI cZ cJ : ClassId} {a : Nat → Nat → Nat} {Q1 : Int32 → zSt → Prop} {p1 : Int32} {p2 : Int32} {p3 : Int32} {u2 : zSt} (hv : TX2_add Q1 p1 p2 p3 u2) : zMI l yX2_add wsX2_add ({ frames := 0, cells := 0, slots := 0, locals := 0 } : Room) D cI cZ cJ [.ref (a 2 99), .int p1, .int p2, .int p3] (k2 a cI cZ u2) (fun u : zSt => k2 a cI cZ u) Q1 := by
  obtain ⟨I6, hv, hI6⟩ := hv
  exact k_X2_add l I6 hv hI6


theorem in_X2_fill_2 : ∀ w ∈ wsX20, w ∈ wsX2_fill := by first | exact fun w h => List.mem_cons_of_mem _ (List.mem_append_right _ h) | exact fun w h => List.mem_cons_of_mem _ (List.mem_append_left _ (List.mem_append_right _ h)) | decide +kernel
theorem fl_X2_fill_15 : Cond.fieldLink RX2 15 (TX2 2).1 (TX2 2).2.1 (TX2 2).2.2.1 ∈ wsX2_fill := by decide +kernel
theorem fl_X2_fill_21 : Cond.fieldLink RX2 21 (TX2 4).1 (TX2 4).2.1 (TX2 4).2.2.1 ∈ wsX2_fill := by decide +kernel
theorem fl_X2_fill_24 : Cond.fieldLink RX2 24 (TX2 6).1 (TX2 6).2.1 (TX2 6).2.2.1 ∈ wsX2_fill := by decide +kernel
theorem mm_X2_fill_min : z_mw RX2 38 Lib.Math.min.name Lib.Math.min.code wsX2_fill := ⟨by decide +kernel, by decide +kernel, by decide +kernel, by decide +kernel⟩
section
variable {p : Program} {l : Launch} {e : Env} {s : State} {m : MethodId} {args : Array Value} {below : List Frame} {meth : Method} {c : Code} {H : Heap} {locs : List Loc} {Q : State → Prop} {D : va_G} {cI cZ cJ : ClassId} {A : Nat → Prop} {ls : Array Slot}
def wp_X2_fill_0 (J9 : Int32 → Int32 → Int32 → zSt → Prop) (Q1 : Int32 → zSt → Prop) (p1 : Int32) (u2 : zSt) : Prop :=
  ∀ x2_1 : Int32, x2_1 = 0 → vp_in p1 6 ∧ (∀ x3_2 : Int32, x3_2 = (u2.2 2 p1.toNatClampNeg) → J9 p1 x2_1 x3_2 u2)

set_option maxHeartbeats 4000000 in
set_option maxRecDepth 100000 in
theorem bk_X2_fill_0 {a : Nat → Nat → Nat} {J9 : Int32 → Int32 → Int32 → zSt → Prop} {Q1 : Int32 → zSt → Prop} {p1 : Int32} {u2 : zSt} (C : zCx p s m args c cX2_fill 5 RX2 wsX2_fill D cI cZ cJ A) (Y : zDy D A s.heap (k2 a cI cZ u2) H locs) (hl : lv_has ls 5 [(0, .ref (a 2 99)), (1, .int p1)]) (hret : ∀ {pc : Nat} {H : Heap} {locs : List Loc} {ls : Array Slot} {r : Int32} {u : zSt}, zDy D A s.heap ((fun u : zSt => k2 a cI cZ u) u) H locs → Q1 r u → decode cX2_fill pc = .ok (.ireturn, 1) → W p l e ({ frames := 1, cells := 0, slots := 0, locals := 24 } : Room) s m args below meth c H locs 0 0 Q (F0 m pc ls [.int r])) (hJ9 : ∀ (x1 : Int32) (x2 : Int32) (x3 : Int32) (u2 : zSt) (H : Heap) (locs : List Loc) (ls : Array Slot), J9 x1 x2 x3 u2 → zDy D A s.heap (k2 a cI cZ u2) H locs → lv_has ls 5 [(0, .ref (a 2 99)), (1, .int x1), (2, .int x2), (3, .int x3)] → W p l e ({ frames := 1, cells := 0, slots := 0, locals := 24 } : Room) s m args below meth c H locs 0 0 Q (F0 m 9 ls [])) (hv : wp_X2_fill_0 J9 Q1 p1 u2) : W p l e ({ frames := 1, cells := 0, slots := 0, locals := 24 } : Room) s m args below meth c H locs 0 0 Q (F0 m 0 ls []) := by
  unfold wp_X2_fill_0 at hv
  obtain ⟨hx, hb, hml, hown, hts, hK, hA⟩ := id C
  refine lv_iconst (v := 0) hx hb dX2_fill_0 (by decide) ?_
  refine z_topi hv (fun x2_1 ex2_1 hv => ?_)
  refine lv_istore_n (lv' := [(2, .int x2_1), (0, .ref (a 2 99)), (1, .int p1)]) hx hb dX2_fill_1 rfl hl (by decide) rfl (fun ls hl => ?_)
  refine lv_aload_n hx hb dX2_fill_2 rfl (lv_at hl 1 rfl) ?_
  refine z_get C Y (Cn := RX2) (T := TX2) (N := 7) in_X2_fill_2 rfl (ge2_2 ..) 2 (by decide) fl_X2_fill_15 rfl dX2_fill_3 ?_
  refine lv_iload_n hx hb dX2_fill_6 rfl (lv_at hl 2 rfl) ?_
  obtain ⟨hi, hv⟩ := hv
  refine z_ldI C Y (pa2_2_2 ..) hi dX2_fill_7 ?_
  refine z_topi hv (fun x3_2 ex3_2 hv => ?_)
  refine lv_istore_n (lv' := [(3, .int x3_2), (2, .int x2_1), (0, .ref (a 2 99)), (1, .int p1)]) hx hb dX2_fill_8 rfl hl (by decide) rfl (fun ls hl => ?_)
  exact hJ9 _ _ _ _ _ _ _ hv Y (lv_sub hl [2, 3, 1, 0] rfl)

def wp_X2_fill_9 (J9 : Int32 → Int32 → Int32 → zSt → Prop) (Q1 : Int32 → zSt → Prop) (x1 : Int32) (x2 : Int32) (x3 : Int32) (u2 : zSt) : Prop :=
  ((10 : Int32) ≤ x3 → Q1 x2 u2) ∧ (¬ (10 : Int32) ≤ x3 → vp_in x3 10 ∧ (vp_in x1 6 ∧ (∀ x4_1 : Int32, x4_1 = (if ((u2.2 4 x1.toNatClampNeg) - x2) < (u2.2 6 x3.toNatClampNeg) then ((u2.2 4 x1.toNatClampNeg) - x2) else (u2.2 6 x3.toNatClampNeg)) → vp_in x3 10 ∧ (vp_in x3 10 ∧ (∀ u2_2 : zSt, u2_2 = zA u2 6 (upd (u2.2 6) x3.toNatClampNeg ((u2.2 6 x3.toNatClampNeg) - x4_1)) → ∀ x2_3 : Int32, x2_3 = (x2 + x4_1) → ∀ x3_4 : Int32, x3_4 = x3 + 1 → J9 x1 x2_3 x3_4 u2_2)))))

set_option maxHeartbeats 4000000 in
set_option maxRecDepth 100000 in
theorem bk_X2_fill_9 {a : Nat → Nat → Nat} {J9 : Int32 → Int32 → Int32 → zSt → Prop} {Q1 : Int32 → zSt → Prop} {x1 : Int32} {x2 : Int32} {x3 : Int32} {u2 : zSt} (C : zCx p s m args c cX2_fill 5 RX2 wsX2_fill D cI cZ cJ A) (Y : zDy D A s.heap (k2 a cI cZ u2) H locs) (hl : lv_has ls 5 [(0, .ref (a 2 99)), (1, .int x1), (2, .int x2), (3, .int x3)]) (hret : ∀ {pc : Nat} {H : Heap} {locs : List Loc} {ls : Array Slot} {r : Int32} {u : zSt}, zDy D A s.heap ((fun u : zSt => k2 a cI cZ u) u) H locs → Q1 r u → decode cX2_fill pc = .ok (.ireturn, 1) → W p l e ({ frames := 1, cells := 0, slots := 0, locals := 24 } : Room) s m args below meth c H locs 0 0 Q (F0 m pc ls [.int r])) (hJ9 : ∀ (x1 : Int32) (x2 : Int32) (x3 : Int32) (u2 : zSt) (H : Heap) (locs : List Loc) (ls : Array Slot), J9 x1 x2 x3 u2 → zDy D A s.heap (k2 a cI cZ u2) H locs → lv_has ls 5 [(0, .ref (a 2 99)), (1, .int x1), (2, .int x2), (3, .int x3)] → W p l e ({ frames := 1, cells := 0, slots := 0, locals := 24 } : Room) s m args below meth c H locs 0 0 Q (F0 m 9 ls [])) (hv : wp_X2_fill_9 J9 Q1 x1 x2 x3 u2) : W p l e ({ frames := 1, cells := 0, slots := 0, locals := 24 } : Room) s m args below meth c H locs 0 0 Q (F0 m 9 ls []) := by
  unfold wp_X2_fill_9 at hv
  obtain ⟨hx, hb, hml, hown, hts, hK, hA⟩ := id C
  refine lv_iload_n hx hb dX2_fill_9 rfl (lv_at hl 3 rfl) ?_
  refine lv_bipush (v := 10) hx hb dX2_fill_10 (by decide) ?_
  refine lv_icmp_ge (tgt := 56) hx hb dX2_fill_12 (by decide) (fun hc => ?_) (fun hc => ?_)
  · have hv := hv.1 hc
    refine lv_iload_n hx hb dX2_fill_56 rfl (lv_at hl 2 rfl) ?_
    exact hret Y hv dX2_fill_57
  · have hv := hv.2 hc
    refine lv_aload_n hx hb dX2_fill_15 rfl (lv_at hl 0 rfl) ?_
    refine z_get C Y (Cn := RX2) (T := TX2) (N := 7) in_X2_fill_2 rfl (ge2_2 ..) 6 (by decide) fl_X2_fill_24 rfl dX2_fill_16 ?_
    refine lv_iload_n hx hb dX2_fill_19 rfl (lv_at hl 3 rfl) ?_
    obtain ⟨hi, hv⟩ := hv
    refine z_ldI C Y (pa2_2_6 ..) hi dX2_fill_20 ?_
    refine lv_aload_n hx hb dX2_fill_21 rfl (lv_at hl 0 rfl) ?_
    refine z_get C Y (Cn := RX2) (T := TX2) (N := 7) in_X2_fill_2 rfl (ge2_2 ..) 4 (by decide) fl_X2_fill_21 rfl dX2_fill_22 ?_
    refine lv_iload_n hx hb dX2_fill_25 rfl (lv_at hl 1 rfl) ?_
    obtain ⟨hi, hv⟩ := hv
    refine z_ldI C Y (pa2_2_4 ..) hi dX2_fill_26 ?_
    refine lv_iload_n hx hb dX2_fill_27 rfl (lv_at hl 2 rfl) ?_
    refine lv_isub hx hb dX2_fill_28 ?_
    refine z_mmin C hl.1 mm_X2_fill_min (Nat.le_of_ble_eq_true rfl) (Nat.le_of_ble_eq_true rfl) (Nat.zero_le _) (Nat.zero_le _) dX2_fill_29 ?_
    refine z_topi hv (fun x4_1 ex4_1 hv => ?_)
    refine lv_istore (lv' := [(4, .int x4_1), (0, .ref (a 2 99)), (1, .int x1), (2, .int x2), (3, .int x3)]) hx hb dX2_fill_32 hl (by decide) rfl (fun ls hl => ?_)
    refine lv_aload_n hx hb dX2_fill_34 rfl (lv_at hl 1 rfl) ?_
    refine z_get C Y (Cn := RX2) (T := TX2) (N := 7) in_X2_fill_2 rfl (ge2_2 ..) 6 (by decide) fl_X2_fill_24 rfl dX2_fill_35 ?_
    refine lv_iload_n hx hb dX2_fill_38 rfl (lv_at hl 4 rfl) ?_
    refine lv_dup2_11 hx hb dX2_fill_39 rfl rfl ?_
    obtain ⟨hi, hv⟩ := hv
    refine z_ldI C Y (pa2_2_6 ..) hi dX2_fill_40 ?_
    refine lv_iload hx hb dX2_fill_41 (lv_at hl 0 rfl) ?_
    refine lv_isub hx hb dX2_fill_43 ?_
    obtain ⟨hi, hv⟩ := hv
    refine z_stI C Y (pa2_2_6 ..) (sa2_2_6 ..) hi dX2_fill_44 (fun H locs Y => ?_)
    obtain ⟨u2_2, eu2_2, Y, hv⟩ := z_nm (kf := fun z => (k2 a cI cZ z)) Y hv
    refine lv_iload_n hx hb dX2_fill_45 rfl (lv_at hl 3 rfl) ?_
    refine lv_iload hx hb dX2_fill_46 (lv_at hl 0 rfl) ?_
    refine lv_iadd hx hb dX2_fill_48 ?_
    refine z_topi hv (fun x2_3 ex2_3 hv => ?_)
    refine lv_istore_n (lv' := [(2, .int x2_3), (4, .int x4_1), (0, .ref (a 2 99)), (1, .int x1), (3, .int x3)]) hx hb dX2_fill_49 rfl hl (by decide) rfl (fun ls hl => ?_)
    obtain ⟨x3_4, ex3_4, hv⟩ := z_nv hv
    refine lv_iinc (v := x3_4) (lv' := [(3, .int x3_4), (2, .int x2_3), (4, .int x4_1), (0, .ref (a 2 99)), (1, .int x1)]) hx hb dX2_fill_50 hl (k := 4) rfl (by rw [ex3_4]; rfl) (by decide) rfl (fun ls hl => ?_)
    refine lv_goto (tgt := 9) hx hb dX2_fill_53 (by decide) ?_
    exact hJ9 _ _ _ _ _ _ _ hv Y (lv_sub hl [3, 4, 1, 0] rfl)

end
set_option maxHeartbeats 4000000 in
set_option maxRecDepth 100000 in
theorem k_X2_fill (l : Launch) {D : va_G} {cI cZ cJ : ClassId} {a : Nat → Nat → Nat} {Q1 : Int32 → zSt → Prop} {p1 : Int32} {u2 : zSt} (I9 : Nat → Int32 → Int32 → Int32 → zSt → Prop)
    (hv : wp_X2_fill_0 (fun x1 x2 x3 u2 => ∃ n : Nat, I9 n x1 x2 x3 u2) Q1 p1 u2)
    (hI9 : ∀ (n : Nat) (x1 : Int32) (x2 : Int32) (x3 : Int32) (u2 : zSt), I9 n x1 x2 x3 u2 → wp_X2_fill_9 (fun x1 x2 x3 u2 => ∃ k : Nat, k < n ∧ I9 k x1 x2 x3 u2) Q1 x1 x2 x3 u2) : zMI l yX2_fill wsX2_fill ({ frames := 1, cells := 0, slots := 0, locals := 24 } : Room) D cI cZ cJ [.ref (a 2 99), .int p1] (k2 a cI cZ u2) (fun u : zSt => k2 a cI cZ u) Q1 := by
  refine z_ofI (by decide) rfl rfl (Nat.le_of_ble_eq_true rfl) (@fun p e s m args below meth c A Q ls C Y hl hret => ?_)
  have key : ∀ n : Nat, (∀ (x1 : Int32) (x2 : Int32) (x3 : Int32) (u2 : zSt) (H : Heap) (locs : List Loc) (ls : Array Slot), I9 n x1 x2 x3 u2 → zDy D A s.heap (k2 a cI cZ u2) H locs → lv_has ls 5 [(0, .ref (a 2 99)), (1, .int x1), (2, .int x2), (3, .int x3)] → W p l e ({ frames := 1, cells := 0, slots := 0, locals := 24 } : Room) s m args below meth c H locs 0 0 Q (F0 m 9 ls [])) := by
    intro n
    induction n using Nat.strongRecOn with
    | _ n ih =>
      exact fun x1 x2 x3 u2 H locs ls hi Y hl => bk_X2_fill_9 C Y hl hret (fun y0 y1 y2 y3 H locs ls hi Y hl => by obtain ⟨k, hk, hi⟩ := hi; exact (ih k hk) y0 y1 y2 y3 H locs ls hi Y hl) (hI9 n x1 x2 x3 u2 hi)
  exact bk_X2_fill_0 C Y hl hret (fun y0 y1 y2 y3 H locs ls hi Y hl => by obtain ⟨n, hi⟩ := hi; exact (key n) y0 y1 y2 y3 H locs ls hi Y hl) hv
def TX2_fill (Q1 : Int32 → zSt → Prop) (p1 : Int32) (u2 : zSt) : Prop :=
  ∃ I9 : Nat → Int32 → Int32 → Int32 → zSt → Prop, (wp_X2_fill_0 (fun x1 x2 x3 u2 => ∃ n : Nat, I9 n x1 x2 x3 u2) Q1 p1 u2) ∧ (∀ (n : Nat) (x1 : Int32) (x2 : Int32) (x3 : Int32) (u2 : zSt), I9 n x1 x2 x3 u2 → wp_X2_fill_9 (fun x1 x2 x3 u2 => ∃ k : Nat, k < n ∧ I9 k x1 x2 x3 u2) Q1 x1 x2 x3 u2)
set_option maxHeartbeats 4000000 in
set_option maxRecDepth 100000 in
theorem c_X2_fill (l : Launch) {D : va_G} {cI cZ cJ : ClassId} {a : Nat → Nat → Nat} {Q1 : Int32 → zSt → Prop} {p1 : Int32} {u2 : zSt} (hv : TX2_fill Q1 p1 u2) : zMI l yX2_fill wsX2_fill ({ frames := 1, cells := 0, slots := 0, locals := 24 } : Room) D cI cZ cJ [.ref (a 2 99), .int p1] (k2 a cI cZ u2) (fun u : zSt => k2 a cI cZ u) Q1 := by
  obtain ⟨I9, hv, hI9⟩ := hv
  exact k_X2_fill l I9 hv hI9


theorem in_X2_greatestWorth_2 : ∀ w ∈ wsX20, w ∈ wsX2_greatestWorth := by first | exact fun w h => List.mem_cons_of_mem _ (List.mem_append_right _ h) | exact fun w h => List.mem_cons_of_mem _ (List.mem_append_left _ (List.mem_append_right _ h)) | decide +kernel
theorem fl_X2_greatestWorth_9 : Cond.fieldLink RX2 9 (TX2 0).1 (TX2 0).2.1 (TX2 0).2.2.1 ∈ wsX2_greatestWorth := by decide +kernel
theorem fl_X2_greatestWorth_18 : Cond.fieldLink RX2 18 (TX2 3).1 (TX2 3).2.1 (TX2 3).2.2.1 ∈ wsX2_greatestWorth := by decide +kernel
theorem fl_X2_greatestWorth_24 : Cond.fieldLink RX2 24 (TX2 6).1 (TX2 6).2.1 (TX2 6).2.2.1 ∈ wsX2_greatestWorth := by decide +kernel
theorem fl_X2_greatestWorth_31 : Cond.fieldLink RX2 31 (TX2 5).1 (TX2 5).2.1 (TX2 5).2.2.1 ∈ wsX2_greatestWorth := by decide +kernel
section
variable {p : Program} {l : Launch} {e : Env} {s : State} {m : MethodId} {args : Array Value} {below : List Frame} {meth : Method} {c : Code} {H : Heap} {locs : List Loc} {Q : State → Prop} {D : va_G} {cI cZ cJ : ClassId} {A : Nat → Prop} {ls : Array Slot}
def wp_X2_greatestWorth_0 (J2 : Int32 → zSt → Prop) (J30 : Int32 → Int32 → zSt → Prop) (Q1 : Int32 → zSt → Prop) (u2 : zSt) : Prop :=
  ∀ x1_1 : Int32, x1_1 = 0 → J2 x1_1 u2

set_option maxHeartbeats 4000000 in
set_option maxRecDepth 100000 in
theorem bk_X2_greatestWorth_0 {a : Nat → Nat → Nat} {J2 : Int32 → zSt → Prop} {J30 : Int32 → Int32 → zSt → Prop} {Q1 : Int32 → zSt → Prop} {u2 : zSt} (C : zCx p s m args c cX2_greatestWorth 3 RX2 wsX2_greatestWorth D cI cZ cJ A) (Y : zDy D A s.heap (k2 a cI cZ u2) H locs) (hl : lv_has ls 3 [(0, .ref (a 2 99))]) (hret : ∀ {pc : Nat} {H : Heap} {locs : List Loc} {ls : Array Slot} {r : Int32} {u : zSt}, zDy D A s.heap ((fun u : zSt => k2 a cI cZ u) u) H locs → Q1 r u → decode cX2_greatestWorth pc = .ok (.ireturn, 1) → W p l e ({ frames := 2, cells := 0, slots := 0, locals := 48 } : Room) s m args below meth c H locs 0 0 Q (F0 m pc ls [.int r])) (hJ2 : ∀ (x1 : Int32) (u2 : zSt) (H : Heap) (locs : List Loc) (ls : Array Slot), J2 x1 u2 → zDy D A s.heap (k2 a cI cZ u2) H locs → lv_has ls 3 [(0, .ref (a 2 99)), (1, .int x1)] → W p l e ({ frames := 2, cells := 0, slots := 0, locals := 48 } : Room) s m args below meth c H locs 0 0 Q (F0 m 2 ls [])) (hJ30 : ∀ (x1 : Int32) (x2 : Int32) (u2 : zSt) (H : Heap) (locs : List Loc) (ls : Array Slot), J30 x1 x2 u2 → zDy D A s.heap (k2 a cI cZ u2) H locs → lv_has ls 3 [(0, .ref (a 2 99)), (1, .int x1), (2, .int x2)] → W p l e ({ frames := 2, cells := 0, slots := 0, locals := 48 } : Room) s m args below meth c H locs 0 0 Q (F0 m 30 ls [])) (hv : wp_X2_greatestWorth_0 J2 J30 Q1  u2) : W p l e ({ frames := 2, cells := 0, slots := 0, locals := 48 } : Room) s m args below meth c H locs 0 0 Q (F0 m 0 ls []) := by
  unfold wp_X2_greatestWorth_0 at hv
  obtain ⟨hx, hb, hml, hown, hts, hK, hA⟩ := id C
  refine lv_iconst (v := 0) hx hb dX2_greatestWorth_0 (by decide) ?_
  refine z_topi hv (fun x1_1 ex1_1 hv => ?_)
  refine lv_istore_n (lv' := [(1, .int x1_1), (0, .ref (a 2 99))]) hx hb dX2_greatestWorth_1 rfl hl (by decide) rfl (fun ls hl => ?_)
  exact hJ2 _ _ _ _ _ hv Y (lv_sub hl [1, 0] rfl)

def wp_X2_greatestWorth_2 (J2 : Int32 → zSt → Prop) (J30 : Int32 → Int32 → zSt → Prop) (Q1 : Int32 → zSt → Prop) (x1 : Int32) (u2 : zSt) : Prop :=
  ((10 : Int32) ≤ x1 → ∀ x1_1 : Int32, x1_1 = 0 → ∀ x2_2 : Int32, x2_2 = 0 → J30 x1_1 x2_2 u2) ∧ (¬ (10 : Int32) ≤ x1 → vp_in x1 10 ∧ (vp_in x1 10 ∧ (∀ u2_3 : zSt, u2_3 = zA u2 6 (upd (u2.2 6) x1.toNatClampNeg (u2.2 0 x1.toNatClampNeg)) → ∀ x1_4 : Int32, x1_4 = x1 + 1 → J2 x1_4 u2_3)))

set_option maxHeartbeats 4000000 in
set_option maxRecDepth 100000 in
theorem bk_X2_greatestWorth_2 {a : Nat → Nat → Nat} {J2 : Int32 → zSt → Prop} {J30 : Int32 → Int32 → zSt → Prop} {Q1 : Int32 → zSt → Prop} {x1 : Int32} {u2 : zSt} (C : zCx p s m args c cX2_greatestWorth 3 RX2 wsX2_greatestWorth D cI cZ cJ A) (Y : zDy D A s.heap (k2 a cI cZ u2) H locs) (hl : lv_has ls 3 [(0, .ref (a 2 99)), (1, .int x1)]) (hret : ∀ {pc : Nat} {H : Heap} {locs : List Loc} {ls : Array Slot} {r : Int32} {u : zSt}, zDy D A s.heap ((fun u : zSt => k2 a cI cZ u) u) H locs → Q1 r u → decode cX2_greatestWorth pc = .ok (.ireturn, 1) → W p l e ({ frames := 2, cells := 0, slots := 0, locals := 48 } : Room) s m args below meth c H locs 0 0 Q (F0 m pc ls [.int r])) (hJ2 : ∀ (x1 : Int32) (u2 : zSt) (H : Heap) (locs : List Loc) (ls : Array Slot), J2 x1 u2 → zDy D A s.heap (k2 a cI cZ u2) H locs → lv_has ls 3 [(0, .ref (a 2 99)), (1, .int x1)] → W p l e ({ frames := 2, cells := 0, slots := 0, locals := 48 } : Room) s m args below meth c H locs 0 0 Q (F0 m 2 ls [])) (hJ30 : ∀ (x1 : Int32) (x2 : Int32) (u2 : zSt) (H : Heap) (locs : List Loc) (ls : Array Slot), J30 x1 x2 u2 → zDy D A s.heap (k2 a cI cZ u2) H locs → lv_has ls 3 [(0, .ref (a 2 99)), (1, .int x1), (2, .int x2)] → W p l e ({ frames := 2, cells := 0, slots := 0, locals := 48 } : Room) s m args below meth c H locs 0 0 Q (F0 m 30 ls [])) (hv : wp_X2_greatestWorth_2 J2 J30 Q1 x1 u2) : W p l e ({ frames := 2, cells := 0, slots := 0, locals := 48 } : Room) s m args below meth c H locs 0 0 Q (F0 m 2 ls []) := by
  unfold wp_X2_greatestWorth_2 at hv
  obtain ⟨hx, hb, hml, hown, hts, hK, hA⟩ := id C
  refine lv_iload_n hx hb dX2_greatestWorth_2 rfl (lv_at hl 1 rfl) ?_
  refine lv_bipush (v := 10) hx hb dX2_greatestWorth_3 (by decide) ?_
  refine lv_icmp_ge (tgt := 26) hx hb dX2_greatestWorth_5 (by decide) (fun hc => ?_) (fun hc => ?_)
  · have hv := hv.1 hc
    refine lv_iconst (v := 0) hx hb dX2_greatestWorth_26 (by decide) ?_
    refine z_topi hv (fun x1_1 ex1_1 hv => ?_)
    refine lv_istore_n (lv' := [(1, .int x1_1), (0, .ref (a 2 99))]) hx hb dX2_greatestWorth_27 rfl hl (by decide) rfl (fun ls hl => ?_)
    refine lv_iconst (v := 0) hx hb dX2_greatestWorth_28 (by decide) ?_
    refine z_topi hv (fun x2_2 ex2_2 hv => ?_)
    refine lv_istore_n (lv' := [(2, .int x2_2), (1, .int x1_1), (0, .ref (a 2 99))]) hx hb dX2_greatestWorth_29 rfl hl (by decide) rfl (fun ls hl => ?_)
    exact hJ30 _ _ _ _ _ _ hv Y (lv_sub hl [2, 1, 0] rfl)
  · have hv := hv.2 hc
    refine lv_aload_n hx hb dX2_greatestWorth_8 rfl (lv_at hl 0 rfl) ?_
    refine z_get C Y (Cn := RX2) (T := TX2) (N := 7) in_X2_greatestWorth_2 rfl (ge2_2 ..) 6 (by decide) fl_X2_greatestWorth_24 rfl dX2_greatestWorth_9 ?_
    refine lv_iload_n hx hb dX2_greatestWorth_12 rfl (lv_at hl 1 rfl) ?_
    refine lv_aload_n hx hb dX2_greatestWorth_13 rfl (lv_at hl 0 rfl) ?_
    refine z_get C Y (Cn := RX2) (T := TX2) (N := 7) in_X2_greatestWorth_2 rfl (ge2_2 ..) 0 (by decide) fl_X2_greatestWorth_9 rfl dX2_greatestWorth_14 ?_
    refine lv_iload_n hx hb dX2_greatestWorth_17 rfl (lv_at hl 1 rfl) ?_
    obtain ⟨hi, hv⟩ := hv
    refine z_ldI C Y (pa2_2_0 ..) hi dX2_greatestWorth_18 ?_
    obtain ⟨hi, hv⟩ := hv
    refine z_stI C Y (pa2_2_6 ..) (sa2_2_6 ..) hi dX2_greatestWorth_19 (fun H locs Y => ?_)
    obtain ⟨u2_3, eu2_3, Y, hv⟩ := z_nm (kf := fun z => (k2 a cI cZ z)) Y hv
    obtain ⟨x1_4, ex1_4, hv⟩ := z_nv hv
    refine lv_iinc (v := x1_4) (lv' := [(1, .int x1_4), (0, .ref (a 2 99))]) hx hb dX2_greatestWorth_20 hl (k := 1) rfl (by rw [ex1_4]; rfl) (by decide) rfl (fun ls hl => ?_)
    refine lv_goto (tgt := 2) hx hb dX2_greatestWorth_23 (by decide) ?_
    exact hJ2 _ _ _ _ _ hv Y (lv_sub hl [1, 0] rfl)

def wp_X2_greatestWorth_30 (J2 : Int32 → zSt → Prop) (J30 : Int32 → Int32 → zSt → Prop) (Q1 : Int32 → zSt → Prop) (x1 : Int32) (x2 : Int32) (u2 : zSt) : Prop :=
  ((u2.1 5) ≤ x2 → Q1 x1 u2) ∧ (¬ (u2.1 5) ≤ x2 → vp_in x2 6 ∧ (TX2_fill (fun (r_2 : Int32) (u2_1 : zSt) => ∀ x1_3 : Int32, x1_3 = (x1 + ((u2.2 3 x2.toNatClampNeg) * r_2)) → ∀ x2_4 : Int32, x2_4 = x2 + 1 → J30 x1_3 x2_4 u2_1) x2 u2))

set_option maxHeartbeats 4000000 in
set_option maxRecDepth 100000 in
theorem bk_X2_greatestWorth_30 {a : Nat → Nat → Nat} {J2 : Int32 → zSt → Prop} {J30 : Int32 → Int32 → zSt → Prop} {Q1 : Int32 → zSt → Prop} {x1 : Int32} {x2 : Int32} {u2 : zSt} (C : zCx p s m args c cX2_greatestWorth 3 RX2 wsX2_greatestWorth D cI cZ cJ A) (Y : zDy D A s.heap (k2 a cI cZ u2) H locs) (hl : lv_has ls 3 [(0, .ref (a 2 99)), (1, .int x1), (2, .int x2)]) (hret : ∀ {pc : Nat} {H : Heap} {locs : List Loc} {ls : Array Slot} {r : Int32} {u : zSt}, zDy D A s.heap ((fun u : zSt => k2 a cI cZ u) u) H locs → Q1 r u → decode cX2_greatestWorth pc = .ok (.ireturn, 1) → W p l e ({ frames := 2, cells := 0, slots := 0, locals := 48 } : Room) s m args below meth c H locs 0 0 Q (F0 m pc ls [.int r])) (hJ2 : ∀ (x1 : Int32) (u2 : zSt) (H : Heap) (locs : List Loc) (ls : Array Slot), J2 x1 u2 → zDy D A s.heap (k2 a cI cZ u2) H locs → lv_has ls 3 [(0, .ref (a 2 99)), (1, .int x1)] → W p l e ({ frames := 2, cells := 0, slots := 0, locals := 48 } : Room) s m args below meth c H locs 0 0 Q (F0 m 2 ls [])) (hJ30 : ∀ (x1 : Int32) (x2 : Int32) (u2 : zSt) (H : Heap) (locs : List Loc) (ls : Array Slot), J30 x1 x2 u2 → zDy D A s.heap (k2 a cI cZ u2) H locs → lv_has ls 3 [(0, .ref (a 2 99)), (1, .int x1), (2, .int x2)] → W p l e ({ frames := 2, cells := 0, slots := 0, locals := 48 } : Room) s m args below meth c H locs 0 0 Q (F0 m 30 ls [])) (hv : wp_X2_greatestWorth_30 J2 J30 Q1 x1 x2 u2) : W p l e ({ frames := 2, cells := 0, slots := 0, locals := 48 } : Room) s m args below meth c H locs 0 0 Q (F0 m 30 ls []) := by
  unfold wp_X2_greatestWorth_30 at hv
  obtain ⟨hx, hb, hml, hown, hts, hK, hA⟩ := id C
  refine lv_iload_n hx hb dX2_greatestWorth_30 rfl (lv_at hl 2 rfl) ?_
  refine lv_aload_n hx hb dX2_greatestWorth_31 rfl (lv_at hl 0 rfl) ?_
  refine z_get C Y (Cn := RX2) (T := TX2) (N := 7) in_X2_greatestWorth_2 rfl (ge2_2 ..) 5 (by decide) fl_X2_greatestWorth_31 rfl dX2_greatestWorth_32 ?_
  refine lv_icmp_ge (tgt := 59) hx hb dX2_greatestWorth_35 (by decide) (fun hc => ?_) (fun hc => ?_)
  · have hv := hv.1 hc
    refine lv_iload_n hx hb dX2_greatestWorth_59 rfl (lv_at hl 1 rfl) ?_
    exact hret Y hv dX2_greatestWorth_60
  · have hv := hv.2 hc
    refine lv_iload_n hx hb dX2_greatestWorth_38 rfl (lv_at hl 1 rfl) ?_
    refine lv_aload_n hx hb dX2_greatestWorth_39 rfl (lv_at hl 0 rfl) ?_
    refine z_get C Y (Cn := RX2) (T := TX2) (N := 7) in_X2_greatestWorth_2 rfl (ge2_2 ..) 3 (by decide) fl_X2_greatestWorth_18 rfl dX2_greatestWorth_40 ?_
    refine lv_iload_n hx hb dX2_greatestWorth_43 rfl (lv_at hl 2 rfl) ?_
    obtain ⟨hi, hv⟩ := hv
    refine z_ldI C Y (pa2_2_3 ..) hi dX2_greatestWorth_44 ?_
    refine lv_aload_n hx hb dX2_greatestWorth_45 rfl (lv_at hl 0 rfl) ?_
    refine lv_iload_n hx hb dX2_greatestWorth_46 rfl (lv_at hl 2 rfl) ?_
    refine z_callVi C Y (c_X2_fill l hv) (zFr.self _ _) (cwV 1 hts gX2_greatestWorth_X2_fill rfl rfl rfl (by decide +kernel) ⟨(Nat.le_of_ble_eq_true rfl), (Nat.le_of_ble_eq_true rfl)⟩) (ge2_2 ..) rfl rfl rfl hl.1 rfl (Nat.le_of_ble_eq_true rfl) dX2_greatestWorth_47 ⟨Nat.zero_le _, Nat.zero_le _⟩ (fun r_2 u2_1 H locs Y hv => ?_)
    refine lv_imul hx hb dX2_greatestWorth_50 ?_
    refine lv_iadd hx hb dX2_greatestWorth_51 ?_
    refine z_topi hv (fun x1_3 ex1_3 hv => ?_)
    refine lv_istore_n (lv' := [(1, .int x1_3), (0, .ref (a 2 99)), (2, .int x2)]) hx hb dX2_greatestWorth_52 rfl hl (by decide) rfl (fun ls hl => ?_)
    obtain ⟨x2_4, ex2_4, hv⟩ := z_nv hv
    refine lv_iinc (v := x2_4) (lv' := [(2, .int x2_4), (1, .int x1_3), (0, .ref (a 2 99))]) hx hb dX2_greatestWorth_53 hl (k := 2) rfl (by rw [ex2_4]; rfl) (by decide) rfl (fun ls hl => ?_)
    refine lv_goto (tgt := 30) hx hb dX2_greatestWorth_56 (by decide) ?_
    exact hJ30 _ _ _ _ _ _ hv Y (lv_sub hl [2, 1, 0] rfl)

end
set_option maxHeartbeats 4000000 in
set_option maxRecDepth 100000 in
theorem k_X2_greatestWorth (l : Launch) {D : va_G} {cI cZ cJ : ClassId} {a : Nat → Nat → Nat} {Q1 : Int32 → zSt → Prop} {u2 : zSt} (I2 : Nat → Int32 → zSt → Prop) (I30 : Nat → Int32 → Int32 → zSt → Prop)
    (hv : wp_X2_greatestWorth_0 (fun x1 u2 => ∃ n : Nat, I2 n x1 u2) (fun x1 x2 u2 => ∃ n : Nat, I30 n x1 x2 u2) Q1  u2)
    (hI2 : ∀ (n : Nat) (x1 : Int32) (u2 : zSt), I2 n x1 u2 → wp_X2_greatestWorth_2 (fun x1 u2 => ∃ k : Nat, k < n ∧ I2 k x1 u2) (fun x1 x2 u2 => ∃ k : Nat, k < n ∧ I30 k x1 x2 u2) Q1 x1 u2)
    (hI30 : ∀ (n : Nat) (x1 : Int32) (x2 : Int32) (u2 : zSt), I30 n x1 x2 u2 → wp_X2_greatestWorth_30 (fun x1 u2 => ∃ k : Nat, k < n ∧ I2 k x1 u2) (fun x1 x2 u2 => ∃ k : Nat, k < n ∧ I30 k x1 x2 u2) Q1 x1 x2 u2) : zMI l yX2_greatestWorth wsX2_greatestWorth ({ frames := 2, cells := 0, slots := 0, locals := 48 } : Room) D cI cZ cJ [.ref (a 2 99)] (k2 a cI cZ u2) (fun u : zSt => k2 a cI cZ u) Q1 := by
  refine z_ofI (by decide) rfl rfl (Nat.le_of_ble_eq_true rfl) (@fun p e s m args below meth c A Q ls C Y hl hret => ?_)
  have key : ∀ n : Nat, (∀ (x1 : Int32) (u2 : zSt) (H : Heap) (locs : List Loc) (ls : Array Slot), I2 n x1 u2 → zDy D A s.heap (k2 a cI cZ u2) H locs → lv_has ls 3 [(0, .ref (a 2 99)), (1, .int x1)] → W p l e ({ frames := 2, cells := 0, slots := 0, locals := 48 } : Room) s m args below meth c H locs 0 0 Q (F0 m 2 ls [])) ∧ (∀ (x1 : Int32) (x2 : Int32) (u2 : zSt) (H : Heap) (locs : List Loc) (ls : Array Slot), I30 n x1 x2 u2 → zDy D A s.heap (k2 a cI cZ u2) H locs → lv_has ls 3 [(0, .ref (a 2 99)), (1, .int x1), (2, .int x2)] → W p l e ({ frames := 2, cells := 0, slots := 0, locals := 48 } : Room) s m args below meth c H locs 0 0 Q (F0 m 30 ls [])) := by
    intro n
    induction n using Nat.strongRecOn with
    | _ n ih =>
      exact ⟨fun x1 u2 H locs ls hi Y hl => bk_X2_greatestWorth_2 C Y hl hret (fun y0 y1 H locs ls hi Y hl => by obtain ⟨k, hk, hi⟩ := hi; exact (ih k hk).1 y0 y1 H locs ls hi Y hl) (fun y0 y1 y2 H locs ls hi Y hl => by obtain ⟨k, hk, hi⟩ := hi; exact (ih k hk).2 y0 y1 y2 H locs ls hi Y hl) (hI2 n x1 u2 hi), fun x1 x2 u2 H locs ls hi Y hl => bk_X2_greatestWorth_30 C Y hl hret (fun y0 y1 H locs ls hi Y hl => by obtain ⟨k, hk, hi⟩ := hi; exact (ih k hk).1 y0 y1 H locs ls hi Y hl) (fun y0 y1 y2 H locs ls hi Y hl => by obtain ⟨k, hk, hi⟩ := hi; exact (ih k hk).2 y0 y1 y2 H locs ls hi Y hl) (hI30 n x1 x2 u2 hi)⟩
  exact bk_X2_greatestWorth_0 C Y hl hret (fun y0 y1 H locs ls hi Y hl => by obtain ⟨n, hi⟩ := hi; exact (key n).1 y0 y1 H locs ls hi Y hl) (fun y0 y1 y2 H locs ls hi Y hl => by obtain ⟨n, hi⟩ := hi; exact (key n).2 y0 y1 y2 H locs ls hi Y hl) hv
def TX2_greatestWorth (Q1 : Int32 → zSt → Prop) (u2 : zSt) : Prop :=
  ∃ I2 : Nat → Int32 → zSt → Prop, ∃ I30 : Nat → Int32 → Int32 → zSt → Prop, (wp_X2_greatestWorth_0 (fun x1 u2 => ∃ n : Nat, I2 n x1 u2) (fun x1 x2 u2 => ∃ n : Nat, I30 n x1 x2 u2) Q1  u2) ∧ (∀ (n : Nat) (x1 : Int32) (u2 : zSt), I2 n x1 u2 → wp_X2_greatestWorth_2 (fun x1 u2 => ∃ k : Nat, k < n ∧ I2 k x1 u2) (fun x1 x2 u2 => ∃ k : Nat, k < n ∧ I30 k x1 x2 u2) Q1 x1 u2) ∧ (∀ (n : Nat) (x1 : Int32) (x2 : Int32) (u2 : zSt), I30 n x1 x2 u2 → wp_X2_greatestWorth_30 (fun x1 u2 => ∃ k : Nat, k < n ∧ I2 k x1 u2) (fun x1 x2 u2 => ∃ k : Nat, k < n ∧ I30 k x1 x2 u2) Q1 x1 x2 u2)
set_option maxHeartbeats 4000000 in
set_option maxRecDepth 100000 in
theorem c_X2_greatestWorth (l : Launch) {D : va_G} {cI cZ cJ : ClassId} {a : Nat → Nat → Nat} {Q1 : Int32 → zSt → Prop} {u2 : zSt} (hv : TX2_greatestWorth Q1  u2) : zMI l yX2_greatestWorth wsX2_greatestWorth ({ frames := 2, cells := 0, slots := 0, locals := 48 } : Room) D cI cZ cJ [.ref (a 2 99)] (k2 a cI cZ u2) (fun u : zSt => k2 a cI cZ u) Q1 := by
  obtain ⟨I2, I30, hv, hI2, hI30⟩ := hv
  exact k_X2_greatestWorth l I2 I30 hv hI2 hI30


