theorem in_X7_slatsOfAll_7 : ∀ w ∈ wsX70, w ∈ wsX7_slatsOfAll := by first | exact fun w h => List.mem_cons_of_mem _ (List.mem_append_right _ h) | exact fun w h => List.mem_cons_of_mem _ (List.mem_append_left _ (List.mem_append_right _ h)) | decide +kernel
theorem fl_X7_slatsOfAll_62 : Cond.fieldLink RX7 62 (TX7 30).1 (TX7 30).2.1 (TX7 30).2.2.1 ∈ wsX7_slatsOfAll := by decide +kernel
section
variable {p : Program} {l : Launch} {e : Env} {s : State} {m : MethodId} {args : Array Value} {below : List Frame} {meth : Method} {c : Code} {H : Heap} {locs : List Loc} {Q : State → Prop} {D : va_G} {cI cZ cJ : ClassId} {A : Nat → Prop} {ls : Array Slot}
def wp_X7_slatsOfAll_0 (J4 : Int32 → Int32 → zSt → Prop) (Q1 : Int32 → zSt → Prop) (u7 : zSt) : Prop :=
  ∀ x1_1 : Int32, x1_1 = 0 → ∀ x2_2 : Int32, x2_2 = 0 → J4 x1_1 x2_2 u7

set_option maxHeartbeats 4000000 in
set_option maxRecDepth 100000 in
theorem bk_X7_slatsOfAll_0 {a : Nat → Nat → Nat} {J4 : Int32 → Int32 → zSt → Prop} {Q1 : Int32 → zSt → Prop} {u7 : zSt} (C : zCx p s m args c cX7_slatsOfAll 3 RX7 wsX7_slatsOfAll D cI cZ cJ A) (Y : zDy D A s.heap (k7 a cI cZ u7) H locs) (hl : lv_has ls 3 [(0, .ref (a 7 99))]) (hret : ∀ {pc : Nat} {H : Heap} {locs : List Loc} {ls : Array Slot} {r : Int32} {u : zSt}, zDy D A s.heap ((fun u : zSt => k7 a cI cZ u) u) H locs → Q1 r u → decode cX7_slatsOfAll pc = .ok (.ireturn, 1) → W p l e ({ frames := 0, cells := 0, slots := 0, locals := 0 } : Room) s m args below meth c H locs 0 0 Q (F0 m pc ls [.int r])) (hJ4 : ∀ (x1 : Int32) (x2 : Int32) (u7 : zSt) (H : Heap) (locs : List Loc) (ls : Array Slot), J4 x1 x2 u7 → zDy D A s.heap (k7 a cI cZ u7) H locs → lv_has ls 3 [(0, .ref (a 7 99)), (1, .int x1), (2, .int x2)] → W p l e ({ frames := 0, cells := 0, slots := 0, locals := 0 } : Room) s m args below meth c H locs 0 0 Q (F0 m 4 ls [])) (hv : wp_X7_slatsOfAll_0 J4 Q1  u7) : W p l e ({ frames := 0, cells := 0, slots := 0, locals := 0 } : Room) s m args below meth c H locs 0 0 Q (F0 m 0 ls []) := by
  unfold wp_X7_slatsOfAll_0 at hv
  obtain ⟨hx, hb, hml, hown, hts, hK, hA⟩ := id C
  refine lv_iconst (v := 0) hx hb dX7_slatsOfAll_0 (by decide) ?_
  refine z_topi hv (fun x1_1 ex1_1 hv => ?_)
  refine lv_istore_n (lv' := [(1, .int x1_1), (0, .ref (a 7 99))]) hx hb dX7_slatsOfAll_1 rfl hl (by decide) rfl (fun ls hl => ?_)
  refine lv_iconst (v := 0) hx hb dX7_slatsOfAll_2 (by decide) ?_
  refine z_topi hv (fun x2_2 ex2_2 hv => ?_)
  refine lv_istore_n (lv' := [(2, .int x2_2), (1, .int x1_1), (0, .ref (a 7 99))]) hx hb dX7_slatsOfAll_3 rfl hl (by decide) rfl (fun ls hl => ?_)
  exact hJ4 _ _ _ _ _ _ hv Y (lv_sub hl [2, 1, 0] rfl)

def wp_X7_slatsOfAll_4 (J4 : Int32 → Int32 → zSt → Prop) (Q1 : Int32 → zSt → Prop) (x1 : Int32) (x2 : Int32) (u7 : zSt) : Prop :=
  ((10 : Int32) ≤ x2 → Q1 x1 u7) ∧ (¬ (10 : Int32) ≤ x2 → vp_in x2 10 ∧ (∀ x1_1 : Int32, x1_1 = (x1 + (u7.2 30 x2.toNatClampNeg)) → ∀ x2_2 : Int32, x2_2 = x2 + 1 → J4 x1_1 x2_2 u7))

set_option maxHeartbeats 4000000 in
set_option maxRecDepth 100000 in
theorem bk_X7_slatsOfAll_4 {a : Nat → Nat → Nat} {J4 : Int32 → Int32 → zSt → Prop} {Q1 : Int32 → zSt → Prop} {x1 : Int32} {x2 : Int32} {u7 : zSt} (C : zCx p s m args c cX7_slatsOfAll 3 RX7 wsX7_slatsOfAll D cI cZ cJ A) (Y : zDy D A s.heap (k7 a cI cZ u7) H locs) (hl : lv_has ls 3 [(0, .ref (a 7 99)), (1, .int x1), (2, .int x2)]) (hret : ∀ {pc : Nat} {H : Heap} {locs : List Loc} {ls : Array Slot} {r : Int32} {u : zSt}, zDy D A s.heap ((fun u : zSt => k7 a cI cZ u) u) H locs → Q1 r u → decode cX7_slatsOfAll pc = .ok (.ireturn, 1) → W p l e ({ frames := 0, cells := 0, slots := 0, locals := 0 } : Room) s m args below meth c H locs 0 0 Q (F0 m pc ls [.int r])) (hJ4 : ∀ (x1 : Int32) (x2 : Int32) (u7 : zSt) (H : Heap) (locs : List Loc) (ls : Array Slot), J4 x1 x2 u7 → zDy D A s.heap (k7 a cI cZ u7) H locs → lv_has ls 3 [(0, .ref (a 7 99)), (1, .int x1), (2, .int x2)] → W p l e ({ frames := 0, cells := 0, slots := 0, locals := 0 } : Room) s m args below meth c H locs 0 0 Q (F0 m 4 ls [])) (hv : wp_X7_slatsOfAll_4 J4 Q1 x1 x2 u7) : W p l e ({ frames := 0, cells := 0, slots := 0, locals := 0 } : Room) s m args below meth c H locs 0 0 Q (F0 m 4 ls []) := by
  unfold wp_X7_slatsOfAll_4 at hv
  obtain ⟨hx, hb, hml, hown, hts, hK, hA⟩ := id C
  refine lv_iload_n hx hb dX7_slatsOfAll_4 rfl (lv_at hl 2 rfl) ?_
  refine lv_bipush (v := 10) hx hb dX7_slatsOfAll_5 (by decide) ?_
  refine lv_icmp_ge (tgt := 25) hx hb dX7_slatsOfAll_7 (by decide) (fun hc => ?_) (fun hc => ?_)
  · have hv := hv.1 hc
    refine lv_iload_n hx hb dX7_slatsOfAll_25 rfl (lv_at hl 1 rfl) ?_
    exact hret Y hv dX7_slatsOfAll_26
  · have hv := hv.2 hc
    refine lv_iload_n hx hb dX7_slatsOfAll_10 rfl (lv_at hl 1 rfl) ?_
    refine lv_aload_n hx hb dX7_slatsOfAll_11 rfl (lv_at hl 0 rfl) ?_
    refine z_get C Y (Cn := RX7) (T := TX7) (N := 42) in_X7_slatsOfAll_7 rfl (ge7_7 ..) 30 (by decide) fl_X7_slatsOfAll_62 rfl dX7_slatsOfAll_12 ?_
    refine lv_iload_n hx hb dX7_slatsOfAll_15 rfl (lv_at hl 2 rfl) ?_
    obtain ⟨hi, hv⟩ := hv
    refine z_ldI C Y (pa7_7_30 ..) hi dX7_slatsOfAll_16 ?_
    refine lv_iadd hx hb dX7_slatsOfAll_17 ?_
    refine z_topi hv (fun x1_1 ex1_1 hv => ?_)
    refine lv_istore_n (lv' := [(1, .int x1_1), (0, .ref (a 7 99)), (2, .int x2)]) hx hb dX7_slatsOfAll_18 rfl hl (by decide) rfl (fun ls hl => ?_)
    obtain ⟨x2_2, ex2_2, hv⟩ := z_nv hv
    refine lv_iinc (v := x2_2) (lv' := [(2, .int x2_2), (1, .int x1_1), (0, .ref (a 7 99))]) hx hb dX7_slatsOfAll_19 hl (k := 2) rfl (by rw [ex2_2]; rfl) (by decide) rfl (fun ls hl => ?_)
    refine lv_goto (tgt := 4) hx hb dX7_slatsOfAll_22 (by decide) ?_
    exact hJ4 _ _ _ _ _ _ hv Y (lv_sub hl [2, 1, 0] rfl)

end
set_option maxHeartbeats 4000000 in
set_option maxRecDepth 100000 in
theorem k_X7_slatsOfAll (l : Launch) {D : va_G} {cI cZ cJ : ClassId} {a : Nat → Nat → Nat} {Q1 : Int32 → zSt → Prop} {u7 : zSt} (I4 : Nat → Int32 → Int32 → zSt → Prop)
    (hv : wp_X7_slatsOfAll_0 (fun x1 x2 u7 => ∃ n : Nat, I4 n x1 x2 u7) Q1  u7)
    (hI4 : ∀ (n : Nat) (x1 : Int32) (x2 : Int32) (u7 : zSt), I4 n x1 x2 u7 → wp_X7_slatsOfAll_4 (fun x1 x2 u7 => ∃ k : Nat, k < n ∧ I4 k x1 x2 u7) Q1 x1 x2 u7) : zMI l yX7_slatsOfAll wsX7_slatsOfAll ({ frames := 0, cells := 0, slots := 0, locals := 0 } : Room) D cI cZ cJ [.ref (a 7 99)] (k7 a cI cZ u7) (fun u : zSt => k7 a cI cZ u) Q1 := by
  refine z_ofI (by decide) rfl rfl (Nat.le_of_ble_eq_true rfl) (@fun p e s m args below meth c A Q ls C Y hl hret => ?_)
  have key : ∀ n : Nat, (∀ (x1 : Int32) (x2 : Int32) (u7 : zSt) (H : Heap) (locs : List Loc) (ls : Array Slot), I4 n x1 x2 u7 → zDy D A s.heap (k7 a cI cZ u7) H locs → lv_has ls 3 [(0, .ref (a 7 99)), (1, .int x1), (2, .int x2)] → W p l e ({ frames := 0, cells := 0, slots := 0, locals := 0 } : Room) s m args below meth c H locs 0 0 Q (F0 m 4 ls [])) := by
    intro n
    induction n using Nat.strongRecOn with
    | _ n ih =>
      exact fun x1 x2 u7 H locs ls hi Y hl => bk_X7_slatsOfAll_4 C Y hl hret (fun y0 y1 y2 H locs ls hi Y hl => by obtain ⟨k, hk, hi⟩ := hi; exact (ih k hk) y0 y1 y2 H locs ls hi Y hl) (hI4 n x1 x2 u7 hi)
  exact bk_X7_slatsOfAll_0 C Y hl hret (fun y0 y1 y2 H locs ls hi Y hl => by obtain ⟨n, hi⟩ := hi; exact (key n) y0 y1 y2 H locs ls hi Y hl) hv
def TX7_slatsOfAll (Q1 : Int32 → zSt → Prop) (u7 : zSt) : Prop :=
  ∃ I4 : Nat → Int32 → Int32 → zSt → Prop, (wp_X7_slatsOfAll_0 (fun x1 x2 u7 => ∃ n : Nat, I4 n x1 x2 u7) Q1  u7) ∧ (∀ (n : Nat) (x1 : Int32) (x2 : Int32) (u7 : zSt), I4 n x1 x2 u7 → wp_X7_slatsOfAll_4 (fun x1 x2 u7 => ∃ k : Nat, k < n ∧ I4 k x1 x2 u7) Q1 x1 x2 u7)
set_option maxHeartbeats 4000000 in
set_option maxRecDepth 100000 in
theorem c_X7_slatsOfAll (l : Launch) {D : va_G} {cI cZ cJ : ClassId} {a : Nat → Nat → Nat} {Q1 : Int32 → zSt → Prop} {u7 : zSt} (hv : TX7_slatsOfAll Q1  u7) : zMI l yX7_slatsOfAll wsX7_slatsOfAll ({ frames := 0, cells := 0, slots := 0, locals := 0 } : Room) D cI cZ cJ [.ref (a 7 99)] (k7 a cI cZ u7) (fun u : zSt => k7 a cI cZ u) Q1 := by
  obtain ⟨I4, hv, hI4⟩ := hv
  exact k_X7_slatsOfAll l I4 hv hI4


theorem in_X7_slats_7 : ∀ w ∈ wsX70, w ∈ wsX7_slats := by first | exact fun w h => List.mem_cons_of_mem _ (List.mem_append_right _ h) | exact fun w h => List.mem_cons_of_mem _ (List.mem_append_left _ (List.mem_append_right _ h)) | decide +kernel
theorem fl_X7_slats_62 : Cond.fieldLink RX7 62 (TX7 30).1 (TX7 30).2.1 (TX7 30).2.2.1 ∈ wsX7_slats := by decide +kernel
theorem fl_X7_slats_93 : Cond.fieldLink RX7 93 (TX7 0).1 (TX7 0).2.1 (TX7 0).2.2.1 ∈ wsX7_slats := by decide +kernel
section
variable {p : Program} {l : Launch} {e : Env} {s : State} {m : MethodId} {args : Array Value} {below : List Frame} {meth : Method} {c : Code} {H : Heap} {locs : List Loc} {Q : State → Prop} {D : va_G} {cI cZ cJ : ClassId} {A : Nat → Prop} {ls : Array Slot}
def wp_X7_slats_32 (Q1 : Int32 → zSt → Prop) (x1 : Int32) (x2 : Int32) (t0 : Int32) (u7 : zSt) : Prop :=
  TX7_throwsIf (fun (r_2 : Int32) (u7_1 : zSt) => (r_2 = (0 : Int32) → vp_in x1 10 ∧ (∀ u7_3 : zSt, u7_3 = zA u7_1 30 (upd (u7_1.2 30) x1.toNatClampNeg x2) → TX7_slatsOfAll (fun (r_5 : Int32) (u7_4 : zSt) => Q1 r_5 u7_4)  u7_3)) ∧ (¬ r_2 = (0 : Int32) → Q1 0 u7_1)) t0 1 u7

set_option maxHeartbeats 4000000 in
set_option maxRecDepth 100000 in
theorem bk_X7_slats_32 {a : Nat → Nat → Nat} {Q1 : Int32 → zSt → Prop} {x1 : Int32} {x2 : Int32} {t0 : Int32} {u7 : zSt} (C : zCx p s m args c cX7_slats 3 RX7 wsX7_slats D cI cZ cJ A) (Y : zDy D A s.heap (k7 a cI cZ u7) H locs) (hl : lv_has ls 3 [(0, .ref (a 7 99)), (1, .int x1), (2, .int x2)]) (hret : ∀ {pc : Nat} {H : Heap} {locs : List Loc} {ls : Array Slot} {r : Int32} {u : zSt}, zDy D A s.heap ((fun u : zSt => k7 a cI cZ u) u) H locs → Q1 r u → decode cX7_slats pc = .ok (.ireturn, 1) → W p l e ({ frames := 1, cells := 0, slots := 0, locals := 22 } : Room) s m args below meth c H locs 0 0 Q (F0 m pc ls [.int r])) (hv : wp_X7_slats_32 Q1 x1 x2 t0 u7) : W p l e ({ frames := 1, cells := 0, slots := 0, locals := 22 } : Room) s m args below meth c H locs 0 0 Q (F0 m 32 ls [.int t0, .ref (a 7 99)]) := by
  unfold wp_X7_slats_32 at hv
  obtain ⟨hx, hb, hml, hown, hts, hK, hA⟩ := id C
  refine lv_iconst (v := 1) hx hb dX7_slats_32 (by decide) ?_
  refine z_callVi C Y (c_X7_throwsIf l hv) (zFr.self _ _) (cwV 2 hts gX7_slats_X7_throwsIf rfl rfl rfl (by decide +kernel) ⟨(Nat.le_of_ble_eq_true rfl), (Nat.le_of_ble_eq_true rfl)⟩) (ge7_7 ..) rfl rfl rfl hl.1 rfl (Nat.le_of_ble_eq_true rfl) dX7_slats_33 ⟨Nat.zero_le _, Nat.zero_le _⟩ (fun r_2 u7_1 H locs Y hv => ?_)
  refine lv_if_eq (tgt := 41) hx hb dX7_slats_36 (by decide) (fun hc => ?_) (fun hc => ?_)
  · have hv := hv.1 hc
    refine lv_aload_n hx hb dX7_slats_41 rfl (lv_at hl 0 rfl) ?_
    refine z_get C Y (Cn := RX7) (T := TX7) (N := 42) in_X7_slats_7 rfl (ge7_7 ..) 30 (by decide) fl_X7_slats_62 rfl dX7_slats_42 ?_
    refine lv_iload_n hx hb dX7_slats_45 rfl (lv_at hl 1 rfl) ?_
    refine lv_iload_n hx hb dX7_slats_46 rfl (lv_at hl 2 rfl) ?_
    obtain ⟨hi, hv⟩ := hv
    refine z_stI C Y (pa7_7_30 ..) (sa7_7_30 ..) hi dX7_slats_47 (fun H locs Y => ?_)
    obtain ⟨u7_3, eu7_3, Y, hv⟩ := z_nm (kf := fun z => (k7 a cI cZ z)) Y hv
    refine lv_aload_n hx hb dX7_slats_48 rfl (lv_at hl 0 rfl) ?_
    refine z_callVi C Y (c_X7_slatsOfAll l hv) (zFr.self _ _) (cwV 0 hts gX7_slats_X7_slatsOfAll rfl rfl rfl (by decide +kernel) ⟨(Nat.le_of_ble_eq_true rfl), (Nat.le_of_ble_eq_true rfl)⟩) (ge7_7 ..) rfl rfl rfl hl.1 rfl (Nat.le_of_ble_eq_true rfl) dX7_slats_49 ⟨Nat.zero_le _, Nat.zero_le _⟩ (fun r_5 u7_4 H locs Y hv => ?_)
    exact hret Y hv dX7_slats_52
  · have hv := hv.2 hc
    refine lv_iconst (v := 0) hx hb dX7_slats_39 (by decide) ?_
    exact hret Y hv dX7_slats_40

def wp_X7_slats_27 (Q1 : Int32 → zSt → Prop) (x1 : Int32) (x2 : Int32) (u7 : zSt) : Prop :=
  wp_X7_slats_32 Q1 x1 x2 1 u7

set_option maxHeartbeats 4000000 in
set_option maxRecDepth 100000 in
theorem bk_X7_slats_27 {a : Nat → Nat → Nat} {Q1 : Int32 → zSt → Prop} {x1 : Int32} {x2 : Int32} {u7 : zSt} (C : zCx p s m args c cX7_slats 3 RX7 wsX7_slats D cI cZ cJ A) (Y : zDy D A s.heap (k7 a cI cZ u7) H locs) (hl : lv_has ls 3 [(0, .ref (a 7 99)), (1, .int x1), (2, .int x2)]) (hret : ∀ {pc : Nat} {H : Heap} {locs : List Loc} {ls : Array Slot} {r : Int32} {u : zSt}, zDy D A s.heap ((fun u : zSt => k7 a cI cZ u) u) H locs → Q1 r u → decode cX7_slats pc = .ok (.ireturn, 1) → W p l e ({ frames := 1, cells := 0, slots := 0, locals := 22 } : Room) s m args below meth c H locs 0 0 Q (F0 m pc ls [.int r])) (hv : wp_X7_slats_27 Q1 x1 x2 u7) : W p l e ({ frames := 1, cells := 0, slots := 0, locals := 22 } : Room) s m args below meth c H locs 0 0 Q (F0 m 27 ls [.ref (a 7 99)]) := by
  unfold wp_X7_slats_27 at hv
  obtain ⟨hx, hb, hml, hown, hts, hK, hA⟩ := id C
  refine lv_iconst (v := 1) hx hb dX7_slats_27 (by decide) ?_
  refine lv_goto (tgt := 32) hx hb dX7_slats_28 (by decide) ?_
  exact bk_X7_slats_32 C Y (lv_sub hl [0, 1, 2] rfl) hret hv

def wp_X7_slats_0 (Q1 : Int32 → zSt → Prop) (p1 : Int32) (p2 : Int32) (u7 : zSt) : Prop :=
  ∀ u7_1 : zSt, u7_1 = zI u7 0 0 → TX7_in (fun (r_2 : Int32) (_ : Unit) => (r_2 = (0 : Int32) → wp_X7_slats_27 Q1 p1 p2 u7_1) ∧ (¬ r_2 = (0 : Int32) → TX7_in (fun (r_3 : Int32) (_ : Unit) => (r_3 = (0 : Int32) → wp_X7_slats_27 Q1 p1 p2 u7_1) ∧ (¬ r_3 = (0 : Int32) → wp_X7_slats_32 Q1 p1 p2 0 u7_1)) p2 0 200 )) p1 0 9 

set_option maxHeartbeats 4000000 in
set_option maxRecDepth 100000 in
theorem bk_X7_slats_0 {a : Nat → Nat → Nat} {Q1 : Int32 → zSt → Prop} {p1 : Int32} {p2 : Int32} {u7 : zSt} (C : zCx p s m args c cX7_slats 3 RX7 wsX7_slats D cI cZ cJ A) (Y : zDy D A s.heap (k7 a cI cZ u7) H locs) (hl : lv_has ls 3 [(0, .ref (a 7 99)), (1, .int p1), (2, .int p2)]) (hret : ∀ {pc : Nat} {H : Heap} {locs : List Loc} {ls : Array Slot} {r : Int32} {u : zSt}, zDy D A s.heap ((fun u : zSt => k7 a cI cZ u) u) H locs → Q1 r u → decode cX7_slats pc = .ok (.ireturn, 1) → W p l e ({ frames := 1, cells := 0, slots := 0, locals := 22 } : Room) s m args below meth c H locs 0 0 Q (F0 m pc ls [.int r])) (hv : wp_X7_slats_0 Q1 p1 p2 u7) : W p l e ({ frames := 1, cells := 0, slots := 0, locals := 22 } : Room) s m args below meth c H locs 0 0 Q (F0 m 0 ls []) := by
  unfold wp_X7_slats_0 at hv
  obtain ⟨hx, hb, hml, hown, hts, hK, hA⟩ := id C
  refine lv_aload_n hx hb dX7_slats_0 rfl (lv_at hl 0 rfl) ?_
  refine lv_iconst (v := 0) hx hb dX7_slats_1 (by decide) ?_
  refine z_putI C Y (Cn := RX7) (T := TX7) (N := 42) in_X7_slats_7 rfl tyX7 tyX7_ok nmX7 (ge7_7 ..) 0 (by decide) fl_X7_slats_93 rfl (by decide +kernel) (Nat.le_of_ble_eq_true rfl) (si7_7_0 ..) dX7_slats_2 (fun H locs Y => ?_)
  obtain ⟨u7_1, eu7_1, Y, hv⟩ := z_nm (kf := fun z => (k7 a cI cZ z)) Y hv
  refine lv_aload_n hx hb dX7_slats_5 rfl (lv_at hl 0 rfl) ?_
  refine lv_iload_n hx hb dX7_slats_6 rfl (lv_at hl 1 rfl) ?_
  refine lv_iconst (v := 0) hx hb dX7_slats_7 (by decide) ?_
  refine lv_bipush (v := 9) hx hb dX7_slats_8 (by decide) ?_
  refine z_callSi C Y (c_X7_in l hv) (zFr.nil _) (va_cwS 3 hts gX7_slats_X7_in rfl rfl rfl (by decide +kernel) ⟨(Nat.le_of_ble_eq_true rfl), (Nat.le_of_ble_eq_true rfl)⟩) rfl hl.1 rfl (Nat.le_of_ble_eq_true rfl) dX7_slats_10 ⟨Nat.zero_le _, Nat.zero_le _⟩ (fun r_2 _ H locs Y hv => ?_)
  refine lv_if_eq (tgt := 27) hx hb dX7_slats_13 (by decide) (fun hc => ?_) (fun hc => ?_)
  · have hv := hv.1 hc
    exact bk_X7_slats_27 C Y (lv_sub hl [0, 1, 2] rfl) hret hv
  · have hv := hv.2 hc
    refine lv_iload_n hx hb dX7_slats_16 rfl (lv_at hl 2 rfl) ?_
    refine lv_iconst (v := 0) hx hb dX7_slats_17 (by decide) ?_
    refine lv_sipush (v := 200) hx hb dX7_slats_18 (by decide) ?_
    refine z_callSi C Y (c_X7_in l hv) (zFr.nil _) (va_cwS 3 hts gX7_slats_X7_in rfl rfl rfl (by decide +kernel) ⟨(Nat.le_of_ble_eq_true rfl), (Nat.le_of_ble_eq_true rfl)⟩) rfl hl.1 rfl (Nat.le_of_ble_eq_true rfl) dX7_slats_21 ⟨Nat.zero_le _, Nat.zero_le _⟩ (fun r_3 _ H locs Y hv => ?_)
    refine lv_if_ne (tgt := 31) hx hb dX7_slats_24 (by decide) (fun hc => ?_) (fun hc => ?_)
    · have hv := hv.2 hc
      refine lv_iconst (v := 0) hx hb dX7_slats_31 (by decide) ?_
      exact bk_X7_slats_32 C Y (lv_sub hl [0, 1, 2] rfl) hret hv
    · have hv := hv.1 hc
      exact bk_X7_slats_27 C Y (lv_sub hl [0, 1, 2] rfl) hret hv

end
abbrev TX7_slats := wp_X7_slats_0
set_option maxHeartbeats 4000000 in
set_option maxRecDepth 100000 in
theorem c_X7_slats (l : Launch) {D : va_G} {cI cZ cJ : ClassId} {a : Nat → Nat → Nat} {Q1 : Int32 → zSt → Prop} {p1 : Int32} {p2 : Int32} {u7 : zSt} (hv : wp_X7_slats_0 Q1 p1 p2 u7) : zMI l yX7_slats wsX7_slats ({ frames := 1, cells := 0, slots := 0, locals := 22 } : Room) D cI cZ cJ [.ref (a 7 99), .int p1, .int p2] (k7 a cI cZ u7) (fun u : zSt => k7 a cI cZ u) Q1 :=
  z_ofI (by decide) rfl rfl (Nat.le_of_ble_eq_true rfl) (fun C Y hl hret => bk_X7_slats_0 C Y hl hret hv)


theorem in_X7_grade_7 : ∀ w ∈ wsX70, w ∈ wsX7_grade := by first | exact fun w h => List.mem_cons_of_mem _ (List.mem_append_right _ h) | exact fun w h => List.mem_cons_of_mem _ (List.mem_append_left _ (List.mem_append_right _ h)) | decide +kernel
theorem fl_X7_grade_65 : Cond.fieldLink RX7 65 (TX7 31).1 (TX7 31).2.1 (TX7 31).2.2.1 ∈ wsX7_grade := by decide +kernel
theorem fl_X7_grade_68 : Cond.fieldLink RX7 68 (TX7 32).1 (TX7 32).2.1 (TX7 32).2.2.1 ∈ wsX7_grade := by decide +kernel
theorem fl_X7_grade_71 : Cond.fieldLink RX7 71 (TX7 33).1 (TX7 33).2.1 (TX7 33).2.2.1 ∈ wsX7_grade := by decide +kernel
theorem fl_X7_grade_93 : Cond.fieldLink RX7 93 (TX7 0).1 (TX7 0).2.1 (TX7 0).2.2.1 ∈ wsX7_grade := by decide +kernel
theorem fl_X7_grade_190 : Cond.fieldLink RX7 190 (TX7 34).1 (TX7 34).2.1 (TX7 34).2.2.1 ∈ wsX7_grade := by decide +kernel
section
variable {p : Program} {l : Launch} {e : Env} {s : State} {m : MethodId} {args : Array Value} {below : List Frame} {meth : Method} {c : Code} {H : Heap} {locs : List Loc} {Q : State → Prop} {D : va_G} {cI cZ cJ : ClassId} {A : Nat → Prop} {ls : Array Slot}
def wp_X7_grade_43 (Q1 : Int32 → zSt → Prop) (x1 : Int32) (x2 : Int32) (x3 : Int32) (t0 : Int32) (u7 : zSt) : Prop :=
  TX7_throwsIf (fun (r_2 : Int32) (u7_1 : zSt) => (r_2 = (0 : Int32) → ((u7_1.1 34) = (6 : Int32) → Q1 (-1) u7_1) ∧ (¬ (u7_1.1 34) = (6 : Int32) → vp_in (u7_1.1 34) 6 ∧ (∀ u7_3 : zSt, u7_3 = zA u7_1 31 (upd (u7_1.2 31) (u7_1.1 34).toNatClampNeg x1) → vp_in (u7_3.1 34) 6 ∧ (∀ u7_4 : zSt, u7_4 = zA u7_3 32 (upd (u7_3.2 32) (u7_3.1 34).toNatClampNeg x2) → vp_in (u7_4.1 34) 6 ∧ (∀ u7_5 : zSt, u7_5 = zA u7_4 33 (upd (u7_4.2 33) (u7_4.1 34).toNatClampNeg x3) → ∀ u7_6 : zSt, u7_6 = zI u7_5 34 ((u7_5.1 34) + 1) → Q1 ((u7_6.1 34) - 1) u7_6))))) ∧ (¬ r_2 = (0 : Int32) → Q1 0 u7_1)) t0 1 u7

set_option maxHeartbeats 4000000 in
set_option maxRecDepth 100000 in
theorem bk_X7_grade_43 {a : Nat → Nat → Nat} {Q1 : Int32 → zSt → Prop} {x1 : Int32} {x2 : Int32} {x3 : Int32} {t0 : Int32} {u7 : zSt} (C : zCx p s m args c cX7_grade 4 RX7 wsX7_grade D cI cZ cJ A) (Y : zDy D A s.heap (k7 a cI cZ u7) H locs) (hl : lv_has ls 4 [(0, .ref (a 7 99)), (1, .int x1), (2, .int x2), (3, .int x3)]) (hret : ∀ {pc : Nat} {H : Heap} {locs : List Loc} {ls : Array Slot} {r : Int32} {u : zSt}, zDy D A s.heap ((fun u : zSt => k7 a cI cZ u) u) H locs → Q1 r u → decode cX7_grade pc = .ok (.ireturn, 1) → W p l e ({ frames := 1, cells := 0, slots := 0, locals := 22 } : Room) s m args below meth c H locs 0 0 Q (F0 m pc ls [.int r])) (hv : wp_X7_grade_43 Q1 x1 x2 x3 t0 u7) : W p l e ({ frames := 1, cells := 0, slots := 0, locals := 22 } : Room) s m args below meth c H locs 0 0 Q (F0 m 43 ls [.int t0, .ref (a 7 99)]) := by
  unfold wp_X7_grade_43 at hv
  obtain ⟨hx, hb, hml, hown, hts, hK, hA⟩ := id C
  refine lv_iconst (v := 1) hx hb dX7_grade_43 (by decide) ?_
  refine z_callVi C Y (c_X7_throwsIf l hv) (zFr.self _ _) (cwV 2 hts gX7_grade_X7_throwsIf rfl rfl rfl (by decide +kernel) ⟨(Nat.le_of_ble_eq_true rfl), (Nat.le_of_ble_eq_true rfl)⟩) (ge7_7 ..) rfl rfl rfl hl.1 rfl (Nat.le_of_ble_eq_true rfl) dX7_grade_44 ⟨Nat.zero_le _, Nat.zero_le _⟩ (fun r_2 u7_1 H locs Y hv => ?_)
  refine lv_if_eq (tgt := 52) hx hb dX7_grade_47 (by decide) (fun hc => ?_) (fun hc => ?_)
  · have hv := hv.1 hc
    refine lv_aload_n hx hb dX7_grade_52 rfl (lv_at hl 0 rfl) ?_
    refine z_get C Y (Cn := RX7) (T := TX7) (N := 42) in_X7_grade_7 rfl (ge7_7 ..) 34 (by decide) fl_X7_grade_190 rfl dX7_grade_53 ?_
    refine lv_bipush (v := 6) hx hb dX7_grade_56 (by decide) ?_
    refine lv_icmp_ne (tgt := 63) hx hb dX7_grade_58 (by decide) (fun hc => ?_) (fun hc => ?_)
    · have hv := hv.2 hc
      refine lv_aload_n hx hb dX7_grade_63 rfl (lv_at hl 0 rfl) ?_
      refine z_get C Y (Cn := RX7) (T := TX7) (N := 42) in_X7_grade_7 rfl (ge7_7 ..) 31 (by decide) fl_X7_grade_65 rfl dX7_grade_64 ?_
      refine lv_aload_n hx hb dX7_grade_67 rfl (lv_at hl 0 rfl) ?_
      refine z_get C Y (Cn := RX7) (T := TX7) (N := 42) in_X7_grade_7 rfl (ge7_7 ..) 34 (by decide) fl_X7_grade_190 rfl dX7_grade_68 ?_
      refine lv_iload_n hx hb dX7_grade_71 rfl (lv_at hl 1 rfl) ?_
      obtain ⟨hi, hv⟩ := hv
      refine z_stI C Y (pa7_7_31 ..) (sa7_7_31 ..) hi dX7_grade_72 (fun H locs Y => ?_)
      obtain ⟨u7_3, eu7_3, Y, hv⟩ := z_nm (kf := fun z => (k7 a cI cZ z)) Y hv
      refine lv_aload_n hx hb dX7_grade_73 rfl (lv_at hl 0 rfl) ?_
      refine z_get C Y (Cn := RX7) (T := TX7) (N := 42) in_X7_grade_7 rfl (ge7_7 ..) 32 (by decide) fl_X7_grade_68 rfl dX7_grade_74 ?_
      refine lv_aload_n hx hb dX7_grade_77 rfl (lv_at hl 0 rfl) ?_
      refine z_get C Y (Cn := RX7) (T := TX7) (N := 42) in_X7_grade_7 rfl (ge7_7 ..) 34 (by decide) fl_X7_grade_190 rfl dX7_grade_78 ?_
      refine lv_iload_n hx hb dX7_grade_81 rfl (lv_at hl 2 rfl) ?_
      obtain ⟨hi, hv⟩ := hv
      refine z_stI C Y (pa7_7_32 ..) (sa7_7_32 ..) hi dX7_grade_82 (fun H locs Y => ?_)
      obtain ⟨u7_4, eu7_4, Y, hv⟩ := z_nm (kf := fun z => (k7 a cI cZ z)) Y hv
      refine lv_aload_n hx hb dX7_grade_83 rfl (lv_at hl 0 rfl) ?_
      refine z_get C Y (Cn := RX7) (T := TX7) (N := 42) in_X7_grade_7 rfl (ge7_7 ..) 33 (by decide) fl_X7_grade_71 rfl dX7_grade_84 ?_
      refine lv_aload_n hx hb dX7_grade_87 rfl (lv_at hl 0 rfl) ?_
      refine z_get C Y (Cn := RX7) (T := TX7) (N := 42) in_X7_grade_7 rfl (ge7_7 ..) 34 (by decide) fl_X7_grade_190 rfl dX7_grade_88 ?_
      refine lv_iload_n hx hb dX7_grade_91 rfl (lv_at hl 3 rfl) ?_
      obtain ⟨hi, hv⟩ := hv
      refine z_stI C Y (pa7_7_33 ..) (sa7_7_33 ..) hi dX7_grade_92 (fun H locs Y => ?_)
      obtain ⟨u7_5, eu7_5, Y, hv⟩ := z_nm (kf := fun z => (k7 a cI cZ z)) Y hv
      refine lv_aload_n hx hb dX7_grade_93 rfl (lv_at hl 0 rfl) ?_
      refine lv_dup hx hb dX7_grade_94 rfl ?_
      refine z_get C Y (Cn := RX7) (T := TX7) (N := 42) in_X7_grade_7 rfl (ge7_7 ..) 34 (by decide) fl_X7_grade_190 rfl dX7_grade_95 ?_
      refine lv_iconst (v := 1) hx hb dX7_grade_98 (by decide) ?_
      refine lv_iadd hx hb dX7_grade_99 ?_
      refine z_putI C Y (Cn := RX7) (T := TX7) (N := 42) in_X7_grade_7 rfl tyX7 tyX7_ok nmX7 (ge7_7 ..) 34 (by decide) fl_X7_grade_190 rfl (by decide +kernel) (Nat.le_of_ble_eq_true rfl) (si7_7_34 ..) dX7_grade_100 (fun H locs Y => ?_)
      obtain ⟨u7_6, eu7_6, Y, hv⟩ := z_nm (kf := fun z => (k7 a cI cZ z)) Y hv
      refine lv_aload_n hx hb dX7_grade_103 rfl (lv_at hl 0 rfl) ?_
      refine z_get C Y (Cn := RX7) (T := TX7) (N := 42) in_X7_grade_7 rfl (ge7_7 ..) 34 (by decide) fl_X7_grade_190 rfl dX7_grade_104 ?_
      refine lv_iconst (v := 1) hx hb dX7_grade_107 (by decide) ?_
      refine lv_isub hx hb dX7_grade_108 ?_
      exact hret Y hv dX7_grade_109
    · have hv := hv.1 hc
      refine lv_iconst (v := (-1)) hx hb dX7_grade_61 (by decide) ?_
      exact hret Y hv dX7_grade_62
  · have hv := hv.2 hc
    refine lv_iconst (v := 0) hx hb dX7_grade_50 (by decide) ?_
    exact hret Y hv dX7_grade_51

def wp_X7_grade_38 (Q1 : Int32 → zSt → Prop) (x1 : Int32) (x2 : Int32) (x3 : Int32) (u7 : zSt) : Prop :=
  wp_X7_grade_43 Q1 x1 x2 x3 1 u7

set_option maxHeartbeats 4000000 in
set_option maxRecDepth 100000 in
theorem bk_X7_grade_38 {a : Nat → Nat → Nat} {Q1 : Int32 → zSt → Prop} {x1 : Int32} {x2 : Int32} {x3 : Int32} {u7 : zSt} (C : zCx p s m args c cX7_grade 4 RX7 wsX7_grade D cI cZ cJ A) (Y : zDy D A s.heap (k7 a cI cZ u7) H locs) (hl : lv_has ls 4 [(0, .ref (a 7 99)), (1, .int x1), (2, .int x2), (3, .int x3)]) (hret : ∀ {pc : Nat} {H : Heap} {locs : List Loc} {ls : Array Slot} {r : Int32} {u : zSt}, zDy D A s.heap ((fun u : zSt => k7 a cI cZ u) u) H locs → Q1 r u → decode cX7_grade pc = .ok (.ireturn, 1) → W p l e ({ frames := 1, cells := 0, slots := 0, locals := 22 } : Room) s m args below meth c H locs 0 0 Q (F0 m pc ls [.int r])) (hv : wp_X7_grade_38 Q1 x1 x2 x3 u7) : W p l e ({ frames := 1, cells := 0, slots := 0, locals := 22 } : Room) s m args below meth c H locs 0 0 Q (F0 m 38 ls [.ref (a 7 99)]) := by
  unfold wp_X7_grade_38 at hv
  obtain ⟨hx, hb, hml, hown, hts, hK, hA⟩ := id C
  refine lv_iconst (v := 1) hx hb dX7_grade_38 (by decide) ?_
  refine lv_goto (tgt := 43) hx hb dX7_grade_39 (by decide) ?_
  exact bk_X7_grade_43 C Y (lv_sub hl [0, 1, 2, 3] rfl) hret hv

def wp_X7_grade_0 (Q1 : Int32 → zSt → Prop) (p1 : Int32) (p2 : Int32) (p3 : Int32) (u7 : zSt) : Prop :=
  ∀ u7_1 : zSt, u7_1 = zI u7 0 0 → TX7_in (fun (r_2 : Int32) (_ : Unit) => (r_2 = (0 : Int32) → wp_X7_grade_38 Q1 p1 p2 p3 u7_1) ∧ (¬ r_2 = (0 : Int32) → TX7_in (fun (r_3 : Int32) (_ : Unit) => (r_3 = (0 : Int32) → wp_X7_grade_38 Q1 p1 p2 p3 u7_1) ∧ (¬ r_3 = (0 : Int32) → TX7_in (fun (r_4 : Int32) (_ : Unit) => (r_4 = (0 : Int32) → wp_X7_grade_38 Q1 p1 p2 p3 u7_1) ∧ (¬ r_4 = (0 : Int32) → wp_X7_grade_43 Q1 p1 p2 p3 0 u7_1)) p3 0 500 )) p2 1 1000 )) p1 0 9 

set_option maxHeartbeats 4000000 in
set_option maxRecDepth 100000 in
theorem bk_X7_grade_0 {a : Nat → Nat → Nat} {Q1 : Int32 → zSt → Prop} {p1 : Int32} {p2 : Int32} {p3 : Int32} {u7 : zSt} (C : zCx p s m args c cX7_grade 4 RX7 wsX7_grade D cI cZ cJ A) (Y : zDy D A s.heap (k7 a cI cZ u7) H locs) (hl : lv_has ls 4 [(0, .ref (a 7 99)), (1, .int p1), (2, .int p2), (3, .int p3)]) (hret : ∀ {pc : Nat} {H : Heap} {locs : List Loc} {ls : Array Slot} {r : Int32} {u : zSt}, zDy D A s.heap ((fun u : zSt => k7 a cI cZ u) u) H locs → Q1 r u → decode cX7_grade pc = .ok (.ireturn, 1) → W p l e ({ frames := 1, cells := 0, slots := 0, locals := 22 } : Room) s m args below meth c H locs 0 0 Q (F0 m pc ls [.int r])) (hv : wp_X7_grade_0 Q1 p1 p2 p3 u7) : W p l e ({ frames := 1, cells := 0, slots := 0, locals := 22 } : Room) s m args below meth c H locs 0 0 Q (F0 m 0 ls []) := by
  unfold wp_X7_grade_0 at hv
  obtain ⟨hx, hb, hml, hown, hts, hK, hA⟩ := id C
  refine lv_aload_n hx hb dX7_grade_0 rfl (lv_at hl 0 rfl) ?_
  refine lv_iconst (v := 0) hx hb dX7_grade_1 (by decide) ?_
  refine z_putI C Y (Cn := RX7) (T := TX7) (N := 42) in_X7_grade_7 rfl tyX7 tyX7_ok nmX7 (ge7_7 ..) 0 (by decide) fl_X7_grade_93 rfl (by decide +kernel) (Nat.le_of_ble_eq_true rfl) (si7_7_0 ..) dX7_grade_2 (fun H locs Y => ?_)
  obtain ⟨u7_1, eu7_1, Y, hv⟩ := z_nm (kf := fun z => (k7 a cI cZ z)) Y hv
  refine lv_aload_n hx hb dX7_grade_5 rfl (lv_at hl 0 rfl) ?_
  refine lv_iload_n hx hb dX7_grade_6 rfl (lv_at hl 1 rfl) ?_
  refine lv_iconst (v := 0) hx hb dX7_grade_7 (by decide) ?_
  refine lv_bipush (v := 9) hx hb dX7_grade_8 (by decide) ?_
  refine z_callSi C Y (c_X7_in l hv) (zFr.nil _) (va_cwS 3 hts gX7_grade_X7_in rfl rfl rfl (by decide +kernel) ⟨(Nat.le_of_ble_eq_true rfl), (Nat.le_of_ble_eq_true rfl)⟩) rfl hl.1 rfl (Nat.le_of_ble_eq_true rfl) dX7_grade_10 ⟨Nat.zero_le _, Nat.zero_le _⟩ (fun r_2 _ H locs Y hv => ?_)
  refine lv_if_eq (tgt := 38) hx hb dX7_grade_13 (by decide) (fun hc => ?_) (fun hc => ?_)
  · have hv := hv.1 hc
    exact bk_X7_grade_38 C Y (lv_sub hl [0, 1, 2, 3] rfl) hret hv
  · have hv := hv.2 hc
    refine lv_iload_n hx hb dX7_grade_16 rfl (lv_at hl 2 rfl) ?_
    refine lv_iconst (v := 1) hx hb dX7_grade_17 (by decide) ?_
    refine lv_sipush (v := 1000) hx hb dX7_grade_18 (by decide) ?_
    refine z_callSi C Y (c_X7_in l hv) (zFr.nil _) (va_cwS 3 hts gX7_grade_X7_in rfl rfl rfl (by decide +kernel) ⟨(Nat.le_of_ble_eq_true rfl), (Nat.le_of_ble_eq_true rfl)⟩) rfl hl.1 rfl (Nat.le_of_ble_eq_true rfl) dX7_grade_21 ⟨Nat.zero_le _, Nat.zero_le _⟩ (fun r_3 _ H locs Y hv => ?_)
    refine lv_if_eq (tgt := 38) hx hb dX7_grade_24 (by decide) (fun hc => ?_) (fun hc => ?_)
    · have hv := hv.1 hc
      exact bk_X7_grade_38 C Y (lv_sub hl [0, 1, 2, 3] rfl) hret hv
    · have hv := hv.2 hc
      refine lv_iload_n hx hb dX7_grade_27 rfl (lv_at hl 3 rfl) ?_
      refine lv_iconst (v := 0) hx hb dX7_grade_28 (by decide) ?_
      refine lv_sipush (v := 500) hx hb dX7_grade_29 (by decide) ?_
      refine z_callSi C Y (c_X7_in l hv) (zFr.nil _) (va_cwS 3 hts gX7_grade_X7_in rfl rfl rfl (by decide +kernel) ⟨(Nat.le_of_ble_eq_true rfl), (Nat.le_of_ble_eq_true rfl)⟩) rfl hl.1 rfl (Nat.le_of_ble_eq_true rfl) dX7_grade_32 ⟨Nat.zero_le _, Nat.zero_le _⟩ (fun r_4 _ H locs Y hv => ?_)
      refine lv_if_ne (tgt := 42) hx hb dX7_grade_35 (by decide) (fun hc => ?_) (fun hc => ?_)
      · have hv := hv.2 hc
        refine lv_iconst (v := 0) hx hb dX7_grade_42 (by decide) ?_
        exact bk_X7_grade_43 C Y (lv_sub hl [0, 1, 2, 3] rfl) hret hv
      · have hv := hv.1 hc
        exact bk_X7_grade_38 C Y (lv_sub hl [0, 1, 2, 3] rfl) hret hv

end
abbrev TX7_grade := wp_X7_grade_0
set_option maxHeartbeats 4000000 in
set_option maxRecDepth 100000 in
theorem c_X7_grade (l : Launch) {D : va_G} {cI cZ cJ : ClassId} {a : Nat → Nat → Nat} {Q1 : Int32 → zSt → Prop} {p1 : Int32} {p2 : Int32} {p3 : Int32} {u7 : zSt} (hv : wp_X7_grade_0 Q1 p1 p2 p3 u7) : zMI l yX7_grade wsX7_grade ({ frames := 1, cells := 0, slots := 0, locals := 22 } : Room) D cI cZ cJ [.ref (a 7 99), .int p1, .int p2, .int p3] (k7 a cI cZ u7) (fun u : zSt => k7 a cI cZ u) Q1 :=
  z_ofI (by decide) rfl rfl (Nat.le_of_ble_eq_true rfl) (fun C Y hl hret => bk_X7_grade_0 C Y hl hret hv)


theorem in_X7_ungrade_7 : ∀ w ∈ wsX70, w ∈ wsX7_ungrade := by first | exact fun w h => List.mem_cons_of_mem _ (List.mem_append_right _ h) | exact fun w h => List.mem_cons_of_mem _ (List.mem_append_left _ (List.mem_append_right _ h)) | decide +kernel
theorem fl_X7_ungrade_93 : Cond.fieldLink RX7 93 (TX7 0).1 (TX7 0).2.1 (TX7 0).2.2.1 ∈ wsX7_ungrade := by decide +kernel
theorem fl_X7_ungrade_190 : Cond.fieldLink RX7 190 (TX7 34).1 (TX7 34).2.1 (TX7 34).2.2.1 ∈ wsX7_ungrade := by decide +kernel
section
variable {p : Program} {l : Launch} {e : Env} {s : State} {m : MethodId} {args : Array Value} {below : List Frame} {meth : Method} {c : Code} {H : Heap} {locs : List Loc} {Q : State → Prop} {D : va_G} {cI cZ cJ : ClassId} {A : Nat → Prop} {ls : Array Slot}
def wp_X7_ungrade_0 (Q1 : Int32 → zSt → Prop) (u7 : zSt) : Prop :=
  ∀ u7_1 : zSt, u7_1 = zI u7 0 0 → ∀ x1_2 : Int32, x1_2 = (u7_1.1 34) → ∀ u7_3 : zSt, u7_3 = zI u7_1 34 0 → Q1 x1_2 u7_3

set_option maxHeartbeats 4000000 in
set_option maxRecDepth 100000 in
theorem bk_X7_ungrade_0 {a : Nat → Nat → Nat} {Q1 : Int32 → zSt → Prop} {u7 : zSt} (C : zCx p s m args c cX7_ungrade 2 RX7 wsX7_ungrade D cI cZ cJ A) (Y : zDy D A s.heap (k7 a cI cZ u7) H locs) (hl : lv_has ls 2 [(0, .ref (a 7 99))]) (hret : ∀ {pc : Nat} {H : Heap} {locs : List Loc} {ls : Array Slot} {r : Int32} {u : zSt}, zDy D A s.heap ((fun u : zSt => k7 a cI cZ u) u) H locs → Q1 r u → decode cX7_ungrade pc = .ok (.ireturn, 1) → W p l e ({ frames := 0, cells := 0, slots := 0, locals := 0 } : Room) s m args below meth c H locs 0 0 Q (F0 m pc ls [.int r])) (hv : wp_X7_ungrade_0 Q1  u7) : W p l e ({ frames := 0, cells := 0, slots := 0, locals := 0 } : Room) s m args below meth c H locs 0 0 Q (F0 m 0 ls []) := by
  unfold wp_X7_ungrade_0 at hv
  obtain ⟨hx, hb, hml, hown, hts, hK, hA⟩ := id C
  refine lv_aload_n hx hb dX7_ungrade_0 rfl (lv_at hl 0 rfl) ?_
  refine lv_iconst (v := 0) hx hb dX7_ungrade_1 (by decide) ?_
  refine z_putI C Y (Cn := RX7) (T := TX7) (N := 42) in_X7_ungrade_7 rfl tyX7 tyX7_ok nmX7 (ge7_7 ..) 0 (by decide) fl_X7_ungrade_93 rfl (by decide +kernel) (Nat.le_of_ble_eq_true rfl) (si7_7_0 ..) dX7_ungrade_2 (fun H locs Y => ?_)
  obtain ⟨u7_1, eu7_1, Y, hv⟩ := z_nm (kf := fun z => (k7 a cI cZ z)) Y hv
  refine lv_aload_n hx hb dX7_ungrade_5 rfl (lv_at hl 0 rfl) ?_
  refine z_get C Y (Cn := RX7) (T := TX7) (N := 42) in_X7_ungrade_7 rfl (ge7_7 ..) 34 (by decide) fl_X7_ungrade_190 rfl dX7_ungrade_6 ?_
  refine z_topi hv (fun x1_2 ex1_2 hv => ?_)
  refine lv_istore_n (lv' := [(1, .int x1_2), (0, .ref (a 7 99))]) hx hb dX7_ungrade_9 rfl hl (by decide) rfl (fun ls hl => ?_)
  refine lv_aload_n hx hb dX7_ungrade_10 rfl (lv_at hl 1 rfl) ?_
  refine lv_iconst (v := 0) hx hb dX7_ungrade_11 (by decide) ?_
  refine z_putI C Y (Cn := RX7) (T := TX7) (N := 42) in_X7_ungrade_7 rfl tyX7 tyX7_ok nmX7 (ge7_7 ..) 34 (by decide) fl_X7_ungrade_190 rfl (by decide +kernel) (Nat.le_of_ble_eq_true rfl) (si7_7_34 ..) dX7_ungrade_12 (fun H locs Y => ?_)
  obtain ⟨u7_3, eu7_3, Y, hv⟩ := z_nm (kf := fun z => (k7 a cI cZ z)) Y hv
  refine lv_iload_n hx hb dX7_ungrade_15 rfl (lv_at hl 0 rfl) ?_
  exact hret Y hv dX7_ungrade_16

end
abbrev TX7_ungrade := wp_X7_ungrade_0
set_option maxHeartbeats 4000000 in
set_option maxRecDepth 100000 in
theorem c_X7_ungrade (l : Launch) {D : va_G} {cI cZ cJ : ClassId} {a : Nat → Nat → Nat} {Q1 : Int32 → zSt → Prop} {u7 : zSt} (hv : wp_X7_ungrade_0 Q1  u7) : zMI l yX7_ungrade wsX7_ungrade ({ frames := 0, cells := 0, slots := 0, locals := 0 } : Room) D cI cZ cJ [.ref (a 7 99)] (k7 a cI cZ u7) (fun u : zSt => k7 a cI cZ u) Q1 :=
  z_ofI (by decide) rfl rfl (Nat.le_of_ble_eq_true rfl) (fun C Y hl hret => bk_X7_ungrade_0 C Y hl hret hv)


theorem in_X7_dearest_7 : ∀ w ∈ wsX70, w ∈ wsX7_dearest := by first | exact fun w h => List.mem_cons_of_mem _ (List.mem_append_right _ h) | exact fun w h => List.mem_cons_of_mem _ (List.mem_append_left _ (List.mem_append_right _ h)) | decide +kernel
theorem fl_X7_dearest_68 : Cond.fieldLink RX7 68 (TX7 32).1 (TX7 32).2.1 (TX7 32).2.2.1 ∈ wsX7_dearest := by decide +kernel
theorem fl_X7_dearest_77 : Cond.fieldLink RX7 77 (TX7 36).1 (TX7 36).2.1 (TX7 36).2.2.1 ∈ wsX7_dearest := by decide +kernel
theorem fl_X7_dearest_190 : Cond.fieldLink RX7 190 (TX7 34).1 (TX7 34).2.1 (TX7 34).2.2.1 ∈ wsX7_dearest := by decide +kernel
section
variable {p : Program} {l : Launch} {e : Env} {s : State} {m : MethodId} {args : Array Value} {below : List Frame} {meth : Method} {c : Code} {H : Heap} {locs : List Loc} {Q : State → Prop} {D : va_G} {cI cZ cJ : ClassId} {A : Nat → Prop} {ls : Array Slot}
def wp_X7_dearest_0 (J4 : Int32 → Int32 → zSt → Prop) (Q1 : Int32 → zSt → Prop) (u7 : zSt) : Prop :=
  ∀ x1_1 : Int32, x1_1 = (-1) → ∀ x2_2 : Int32, x2_2 = 0 → J4 x1_1 x2_2 u7

set_option maxHeartbeats 4000000 in
set_option maxRecDepth 100000 in
theorem bk_X7_dearest_0 {a : Nat → Nat → Nat} {J4 : Int32 → Int32 → zSt → Prop} {Q1 : Int32 → zSt → Prop} {u7 : zSt} (C : zCx p s m args c cX7_dearest 3 RX7 wsX7_dearest D cI cZ cJ A) (Y : zDy D A s.heap (k7 a cI cZ u7) H locs) (hl : lv_has ls 3 [(0, .ref (a 7 99))]) (hret : ∀ {pc : Nat} {H : Heap} {locs : List Loc} {ls : Array Slot} {r : Int32} {u : zSt}, zDy D A s.heap ((fun u : zSt => k7 a cI cZ u) u) H locs → Q1 r u → decode cX7_dearest pc = .ok (.ireturn, 1) → W p l e ({ frames := 0, cells := 0, slots := 0, locals := 0 } : Room) s m args below meth c H locs 0 0 Q (F0 m pc ls [.int r])) (hJ4 : ∀ (x1 : Int32) (x2 : Int32) (u7 : zSt) (H : Heap) (locs : List Loc) (ls : Array Slot), J4 x1 x2 u7 → zDy D A s.heap (k7 a cI cZ u7) H locs → lv_has ls 3 [(0, .ref (a 7 99)), (1, .int x1), (2, .int x2)] → W p l e ({ frames := 0, cells := 0, slots := 0, locals := 0 } : Room) s m args below meth c H locs 0 0 Q (F0 m 4 ls [])) (hv : wp_X7_dearest_0 J4 Q1  u7) : W p l e ({ frames := 0, cells := 0, slots := 0, locals := 0 } : Room) s m args below meth c H locs 0 0 Q (F0 m 0 ls []) := by
  unfold wp_X7_dearest_0 at hv
  obtain ⟨hx, hb, hml, hown, hts, hK, hA⟩ := id C
  refine lv_iconst (v := (-1)) hx hb dX7_dearest_0 (by decide) ?_
  refine z_topi hv (fun x1_1 ex1_1 hv => ?_)
  refine lv_istore_n (lv' := [(1, .int x1_1), (0, .ref (a 7 99))]) hx hb dX7_dearest_1 rfl hl (by decide) rfl (fun ls hl => ?_)
  refine lv_iconst (v := 0) hx hb dX7_dearest_2 (by decide) ?_
  refine z_topi hv (fun x2_2 ex2_2 hv => ?_)
  refine lv_istore_n (lv' := [(2, .int x2_2), (1, .int x1_1), (0, .ref (a 7 99))]) hx hb dX7_dearest_3 rfl hl (by decide) rfl (fun ls hl => ?_)
  exact hJ4 _ _ _ _ _ _ hv Y (lv_sub hl [2, 1, 0] rfl)

def wp_X7_dearest_40 (J4 : Int32 → Int32 → zSt → Prop) (Q1 : Int32 → zSt → Prop) (x2 : Int32) (u7 : zSt) : Prop :=
  ∀ x1_1 : Int32, x1_1 = x2 → ∀ x2_2 : Int32, x2_2 = x2 + 1 → J4 x1_1 x2_2 u7

set_option maxHeartbeats 4000000 in
set_option maxRecDepth 100000 in
theorem bk_X7_dearest_40 {a : Nat → Nat → Nat} {J4 : Int32 → Int32 → zSt → Prop} {Q1 : Int32 → zSt → Prop} {x2 : Int32} {u7 : zSt} (C : zCx p s m args c cX7_dearest 3 RX7 wsX7_dearest D cI cZ cJ A) (Y : zDy D A s.heap (k7 a cI cZ u7) H locs) (hl : lv_has ls 3 [(0, .ref (a 7 99)), (2, .int x2)]) (hret : ∀ {pc : Nat} {H : Heap} {locs : List Loc} {ls : Array Slot} {r : Int32} {u : zSt}, zDy D A s.heap ((fun u : zSt => k7 a cI cZ u) u) H locs → Q1 r u → decode cX7_dearest pc = .ok (.ireturn, 1) → W p l e ({ frames := 0, cells := 0, slots := 0, locals := 0 } : Room) s m args below meth c H locs 0 0 Q (F0 m pc ls [.int r])) (hJ4 : ∀ (x1 : Int32) (x2 : Int32) (u7 : zSt) (H : Heap) (locs : List Loc) (ls : Array Slot), J4 x1 x2 u7 → zDy D A s.heap (k7 a cI cZ u7) H locs → lv_has ls 3 [(0, .ref (a 7 99)), (1, .int x1), (2, .int x2)] → W p l e ({ frames := 0, cells := 0, slots := 0, locals := 0 } : Room) s m args below meth c H locs 0 0 Q (F0 m 4 ls [])) (hv : wp_X7_dearest_40 J4 Q1 x2 u7) : W p l e ({ frames := 0, cells := 0, slots := 0, locals := 0 } : Room) s m args below meth c H locs 0 0 Q (F0 m 40 ls []) := by
  unfold wp_X7_dearest_40 at hv
  obtain ⟨hx, hb, hml, hown, hts, hK, hA⟩ := id C
  refine lv_iload_n hx hb dX7_dearest_40 rfl (lv_at hl 1 rfl) ?_
  refine z_topi hv (fun x1_1 ex1_1 hv => ?_)
  refine lv_istore_n (lv' := [(1, .int x1_1), (0, .ref (a 7 99)), (2, .int x2)]) hx hb dX7_dearest_41 rfl hl (by decide) rfl (fun ls hl => ?_)
  obtain ⟨x2_2, ex2_2, hv⟩ := z_nv hv
  refine lv_iinc (v := x2_2) (lv' := [(2, .int x2_2), (1, .int x1_1), (0, .ref (a 7 99))]) hx hb dX7_dearest_42 hl (k := 2) rfl (by rw [ex2_2]; rfl) (by decide) rfl (fun ls hl => ?_)
  refine lv_goto (tgt := 4) hx hb dX7_dearest_45 (by decide) ?_
  exact hJ4 _ _ _ _ _ _ hv Y (lv_sub hl [2, 1, 0] rfl)

def wp_X7_dearest_4 (J4 : Int32 → Int32 → zSt → Prop) (Q1 : Int32 → zSt → Prop) (x1 : Int32) (x2 : Int32) (u7 : zSt) : Prop :=
  ((u7.1 34) ≤ x2 → Q1 x1 u7) ∧ (¬ (u7.1 34) ≤ x2 → vp_in x2 6 ∧ (((u7.2 36 x2.toNatClampNeg) = (0 : Int32) → (x1 < (0 : Int32) → wp_X7_dearest_40 J4 Q1 x2 u7) ∧ (¬ x1 < (0 : Int32) → vp_in x2 6 ∧ (vp_in x1 6 ∧ (((u7.2 32 x2.toNatClampNeg) ≤ (u7.2 32 x1.toNatClampNeg) → ∀ x2_2 : Int32, x2_2 = x2 + 1 → J4 x1 x2_2 u7) ∧ (¬ (u7.2 32 x2.toNatClampNeg) ≤ (u7.2 32 x1.toNatClampNeg) → wp_X7_dearest_40 J4 Q1 x2 u7))))) ∧ (¬ (u7.2 36 x2.toNatClampNeg) = (0 : Int32) → ∀ x2_1 : Int32, x2_1 = x2 + 1 → J4 x1 x2_1 u7)))

set_option maxHeartbeats 4000000 in
set_option maxRecDepth 100000 in
theorem bk_X7_dearest_4 {a : Nat → Nat → Nat} {J4 : Int32 → Int32 → zSt → Prop} {Q1 : Int32 → zSt → Prop} {x1 : Int32} {x2 : Int32} {u7 : zSt} (C : zCx p s m args c cX7_dearest 3 RX7 wsX7_dearest D cI cZ cJ A) (Y : zDy D A s.heap (k7 a cI cZ u7) H locs) (hl : lv_has ls 3 [(0, .ref (a 7 99)), (1, .int x1), (2, .int x2)]) (hret : ∀ {pc : Nat} {H : Heap} {locs : List Loc} {ls : Array Slot} {r : Int32} {u : zSt}, zDy D A s.heap ((fun u : zSt => k7 a cI cZ u) u) H locs → Q1 r u → decode cX7_dearest pc = .ok (.ireturn, 1) → W p l e ({ frames := 0, cells := 0, slots := 0, locals := 0 } : Room) s m args below meth c H locs 0 0 Q (F0 m pc ls [.int r])) (hJ4 : ∀ (x1 : Int32) (x2 : Int32) (u7 : zSt) (H : Heap) (locs : List Loc) (ls : Array Slot), J4 x1 x2 u7 → zDy D A s.heap (k7 a cI cZ u7) H locs → lv_has ls 3 [(0, .ref (a 7 99)), (1, .int x1), (2, .int x2)] → W p l e ({ frames := 0, cells := 0, slots := 0, locals := 0 } : Room) s m args below meth c H locs 0 0 Q (F0 m 4 ls [])) (hv : wp_X7_dearest_4 J4 Q1 x1 x2 u7) : W p l e ({ frames := 0, cells := 0, slots := 0, locals := 0 } : Room) s m args below meth c H locs 0 0 Q (F0 m 4 ls []) := by
  unfold wp_X7_dearest_4 at hv
  obtain ⟨hx, hb, hml, hown, hts, hK, hA⟩ := id C
  refine lv_iload_n hx hb dX7_dearest_4 rfl (lv_at hl 2 rfl) ?_
  refine lv_aload_n hx hb dX7_dearest_5 rfl (lv_at hl 0 rfl) ?_
  refine z_get C Y (Cn := RX7) (T := TX7) (N := 42) in_X7_dearest_7 rfl (ge7_7 ..) 34 (by decide) fl_X7_dearest_190 rfl dX7_dearest_6 ?_
  refine lv_icmp_ge (tgt := 48) hx hb dX7_dearest_9 (by decide) (fun hc => ?_) (fun hc => ?_)
  · have hv := hv.1 hc
    refine lv_iload_n hx hb dX7_dearest_48 rfl (lv_at hl 1 rfl) ?_
    exact hret Y hv dX7_dearest_49
  · have hv := hv.2 hc
    refine lv_aload_n hx hb dX7_dearest_12 rfl (lv_at hl 0 rfl) ?_
    refine z_get C Y (Cn := RX7) (T := TX7) (N := 42) in_X7_dearest_7 rfl (ge7_7 ..) 36 (by decide) fl_X7_dearest_77 rfl dX7_dearest_13 ?_
    refine lv_iload_n hx hb dX7_dearest_16 rfl (lv_at hl 2 rfl) ?_
    obtain ⟨hi, hv⟩ := hv
    refine z_ldZ C Y (pa7_7_36 ..) hi dX7_dearest_17 ?_
    refine lv_if_ne (tgt := 42) hx hb dX7_dearest_18 (by decide) (fun hc => ?_) (fun hc => ?_)
    · have hv := hv.2 hc
      obtain ⟨x2_1, ex2_1, hv⟩ := z_nv hv
      refine lv_iinc (v := x2_1) (lv' := [(2, .int x2_1), (0, .ref (a 7 99)), (1, .int x1)]) hx hb dX7_dearest_42 hl (k := 2) rfl (by rw [ex2_1]; rfl) (by decide) rfl (fun ls hl => ?_)
      refine lv_goto (tgt := 4) hx hb dX7_dearest_45 (by decide) ?_
      exact hJ4 _ _ _ _ _ _ hv Y (lv_sub hl [1, 2, 0] rfl)
    · have hv := hv.1 hc
      refine lv_iload_n hx hb dX7_dearest_21 rfl (lv_at hl 1 rfl) ?_
      refine lv_if_lt (tgt := 40) hx hb dX7_dearest_22 (by decide) (fun hc => ?_) (fun hc => ?_)
      · have hv := hv.1 hc
        exact bk_X7_dearest_40 C Y (lv_sub hl [0, 2] rfl) hret hJ4 hv
      · have hv := hv.2 hc
        refine lv_aload_n hx hb dX7_dearest_25 rfl (lv_at hl 0 rfl) ?_
        refine z_get C Y (Cn := RX7) (T := TX7) (N := 42) in_X7_dearest_7 rfl (ge7_7 ..) 32 (by decide) fl_X7_dearest_68 rfl dX7_dearest_26 ?_
        refine lv_iload_n hx hb dX7_dearest_29 rfl (lv_at hl 2 rfl) ?_
        obtain ⟨hi, hv⟩ := hv
        refine z_ldI C Y (pa7_7_32 ..) hi dX7_dearest_30 ?_
        refine lv_aload_n hx hb dX7_dearest_31 rfl (lv_at hl 0 rfl) ?_
        refine z_get C Y (Cn := RX7) (T := TX7) (N := 42) in_X7_dearest_7 rfl (ge7_7 ..) 32 (by decide) fl_X7_dearest_68 rfl dX7_dearest_32 ?_
        refine lv_iload_n hx hb dX7_dearest_35 rfl (lv_at hl 1 rfl) ?_
        obtain ⟨hi, hv⟩ := hv
        refine z_ldI C Y (pa7_7_32 ..) hi dX7_dearest_36 ?_
        refine lv_icmp_le (tgt := 42) hx hb dX7_dearest_37 (by decide) (fun hc => ?_) (fun hc => ?_)
        · have hv := hv.1 hc
          obtain ⟨x2_2, ex2_2, hv⟩ := z_nv hv
          refine lv_iinc (v := x2_2) (lv' := [(2, .int x2_2), (0, .ref (a 7 99)), (1, .int x1)]) hx hb dX7_dearest_42 hl (k := 2) rfl (by rw [ex2_2]; rfl) (by decide) rfl (fun ls hl => ?_)
          refine lv_goto (tgt := 4) hx hb dX7_dearest_45 (by decide) ?_
          exact hJ4 _ _ _ _ _ _ hv Y (lv_sub hl [1, 2, 0] rfl)
        · have hv := hv.2 hc
          exact bk_X7_dearest_40 C Y (lv_sub hl [0, 2] rfl) hret hJ4 hv

end
set_option maxHeartbeats 4000000 in
set_option maxRecDepth 100000 in
theorem k_X7_dearest (l : Launch) {D : va_G} {cI cZ cJ : ClassId} {a : Nat → Nat → Nat} {Q1 : Int32 → zSt → Prop} {u7 : zSt} (I4 : Nat → Int32 → Int32 → zSt → Prop)
    (hv : wp_X7_dearest_0 (fun x1 x2 u7 => ∃ n : Nat, I4 n x1 x2 u7) Q1  u7)
    (hI4 : ∀ (n : Nat) (x1 : Int32) (x2 : Int32) (u7 : zSt), I4 n x1 x2 u7 → wp_X7_dearest_4 (fun x1 x2 u7 => ∃ k : Nat, k < n ∧ I4 k x1 x2 u7) Q1 x1 x2 u7) : zMI l yX7_dearest wsX7_dearest ({ frames := 0, cells := 0, slots := 0, locals := 0 } : Room) D cI cZ cJ [.ref (a 7 99)] (k7 a cI cZ u7) (fun u : zSt => k7 a cI cZ u) Q1 := by
  refine z_ofI (by decide) rfl rfl (Nat.le_of_ble_eq_true rfl) (@fun p e s m args below meth c A Q ls C Y hl hret => ?_)
  have key : ∀ n : Nat, (∀ (x1 : Int32) (x2 : Int32) (u7 : zSt) (H : Heap) (locs : List Loc) (ls : Array Slot), I4 n x1 x2 u7 → zDy D A s.heap (k7 a cI cZ u7) H locs → lv_has ls 3 [(0, .ref (a 7 99)), (1, .int x1), (2, .int x2)] → W p l e ({ frames := 0, cells := 0, slots := 0, locals := 0 } : Room) s m args below meth c H locs 0 0 Q (F0 m 4 ls [])) := by
    intro n
    induction n using Nat.strongRecOn with
    | _ n ih =>
      exact fun x1 x2 u7 H locs ls hi Y hl => bk_X7_dearest_4 C Y hl hret (fun y0 y1 y2 H locs ls hi Y hl => by obtain ⟨k, hk, hi⟩ := hi; exact (ih k hk) y0 y1 y2 H locs ls hi Y hl) (hI4 n x1 x2 u7 hi)
  exact bk_X7_dearest_0 C Y hl hret (fun y0 y1 y2 H locs ls hi Y hl => by obtain ⟨n, hi⟩ := hi; exact (key n) y0 y1 y2 H locs ls hi Y hl) hv
def TX7_dearest (Q1 : Int32 → zSt → Prop) (u7 : zSt) : Prop :=
  ∃ I4 : Nat → Int32 → Int32 → zSt → Prop, (wp_X7_dearest_0 (fun x1 x2 u7 => ∃ n : Nat, I4 n x1 x2 u7) Q1  u7) ∧ (∀ (n : Nat) (x1 : Int32) (x2 : Int32) (u7 : zSt), I4 n x1 x2 u7 → wp_X7_dearest_4 (fun x1 x2 u7 => ∃ k : Nat, k < n ∧ I4 k x1 x2 u7) Q1 x1 x2 u7)
set_option maxHeartbeats 4000000 in
set_option maxRecDepth 100000 in
theorem c_X7_dearest (l : Launch) {D : va_G} {cI cZ cJ : ClassId} {a : Nat → Nat → Nat} {Q1 : Int32 → zSt → Prop} {u7 : zSt} (hv : TX7_dearest Q1  u7) : zMI l yX7_dearest wsX7_dearest ({ frames := 0, cells := 0, slots := 0, locals := 0 } : Room) D cI cZ cJ [.ref (a 7 99)] (k7 a cI cZ u7) (fun u : zSt => k7 a cI cZ u) Q1 := by
  obtain ⟨I4, hv, hI4⟩ := hv
  exact k_X7_dearest l I4 hv hI4


theorem in_X7_most_7 : ∀ w ∈ wsX70, w ∈ wsX7_most := by first | exact fun w h => List.mem_cons_of_mem _ (List.mem_append_right _ h) | exact fun w h => List.mem_cons_of_mem _ (List.mem_append_left _ (List.mem_append_right _ h)) | decide +kernel
theorem fl_X7_most_62 : Cond.fieldLink RX7 62 (TX7 30).1 (TX7 30).2.1 (TX7 30).2.2.1 ∈ wsX7_most := by decide +kernel
theorem fl_X7_most_65 : Cond.fieldLink RX7 65 (TX7 31).1 (TX7 31).2.1 (TX7 31).2.2.1 ∈ wsX7_most := by decide +kernel
theorem fl_X7_most_68 : Cond.fieldLink RX7 68 (TX7 32).1 (TX7 32).2.1 (TX7 32).2.2.1 ∈ wsX7_most := by decide +kernel
theorem fl_X7_most_71 : Cond.fieldLink RX7 71 (TX7 33).1 (TX7 33).2.1 (TX7 33).2.2.1 ∈ wsX7_most := by decide +kernel
theorem fl_X7_most_74 : Cond.fieldLink RX7 74 (TX7 35).1 (TX7 35).2.1 (TX7 35).2.2.1 ∈ wsX7_most := by decide +kernel
theorem fl_X7_most_77 : Cond.fieldLink RX7 77 (TX7 36).1 (TX7 36).2.1 (TX7 36).2.2.1 ∈ wsX7_most := by decide +kernel
theorem fl_X7_most_93 : Cond.fieldLink RX7 93 (TX7 0).1 (TX7 0).2.1 (TX7 0).2.2.1 ∈ wsX7_most := by decide +kernel
theorem mm_X7_most_min : z_mw RX7 158 Lib.Math.min.name Lib.Math.min.code wsX7_most := ⟨by decide +kernel, by decide +kernel, by decide +kernel, by decide +kernel⟩
section
variable {p : Program} {l : Launch} {e : Env} {s : State} {m : MethodId} {args : Array Value} {below : List Frame} {meth : Method} {c : Code} {H : Heap} {locs : List Loc} {Q : State → Prop} {D : va_G} {cI cZ cJ : ClassId} {A : Nat → Prop} {ls : Array Slot}
def wp_X7_most_0 (J10 : Int32 → Int32 → zSt → Prop) (J38 : Int32 → zSt → Prop) (J64 : Int32 → Int32 → zSt → Prop) (J86 : Int32 → Int32 → Int32 → Int32 → zSt → Prop) (J120 : Int32 → Int32 → Int32 → Int32 → zSt → Prop) (Q1 : Int32 → zSt → Prop) (u7 : zSt) : Prop :=
  ∀ u7_1 : zSt, u7_1 = zI u7 0 0 → ∀ x1_2 : Int32, x1_2 = 0 → ∀ x2_3 : Int32, x2_3 = 9 → J10 x1_2 x2_3 u7_1

set_option maxHeartbeats 4000000 in
set_option maxRecDepth 100000 in
theorem bk_X7_most_0 {a : Nat → Nat → Nat} {J10 : Int32 → Int32 → zSt → Prop} {J38 : Int32 → zSt → Prop} {J64 : Int32 → Int32 → zSt → Prop} {J86 : Int32 → Int32 → Int32 → Int32 → zSt → Prop} {J120 : Int32 → Int32 → Int32 → Int32 → zSt → Prop} {Q1 : Int32 → zSt → Prop} {u7 : zSt} (C : zCx p s m args c cX7_most 6 RX7 wsX7_most D cI cZ cJ A) (Y : zDy D A s.heap (k7 a cI cZ u7) H locs) (hl : lv_has ls 6 [(0, .ref (a 7 99))]) (hret : ∀ {pc : Nat} {H : Heap} {locs : List Loc} {ls : Array Slot} {r : Int32} {u : zSt}, zDy D A s.heap ((fun u : zSt => k7 a cI cZ u) u) H locs → Q1 r u → decode cX7_most pc = .ok (.ireturn, 1) → W p l e ({ frames := 1, cells := 0, slots := 0, locals := 24 } : Room) s m args below meth c H locs 0 0 Q (F0 m pc ls [.int r])) (hJ10 : ∀ (x1 : Int32) (x2 : Int32) (u7 : zSt) (H : Heap) (locs : List Loc) (ls : Array Slot), J10 x1 x2 u7 → zDy D A s.heap (k7 a cI cZ u7) H locs → lv_has ls 6 [(0, .ref (a 7 99)), (1, .int x1), (2, .int x2)] → W p l e ({ frames := 1, cells := 0, slots := 0, locals := 24 } : Room) s m args below meth c H locs 0 0 Q (F0 m 10 ls [])) (hJ38 : ∀ (x2 : Int32) (u7 : zSt) (H : Heap) (locs : List Loc) (ls : Array Slot), J38 x2 u7 → zDy D A s.heap (k7 a cI cZ u7) H locs → lv_has ls 6 [(0, .ref (a 7 99)), (2, .int x2)] → W p l e ({ frames := 1, cells := 0, slots := 0, locals := 24 } : Room) s m args below meth c H locs 0 0 Q (F0 m 38 ls [])) (hJ64 : ∀ (x2 : Int32) (x3 : Int32) (u7 : zSt) (H : Heap) (locs : List Loc) (ls : Array Slot), J64 x2 x3 u7 → zDy D A s.heap (k7 a cI cZ u7) H locs → lv_has ls 6 [(0, .ref (a 7 99)), (2, .int x2), (3, .int x3)] → W p l e ({ frames := 1, cells := 0, slots := 0, locals := 24 } : Room) s m args below meth c H locs 0 0 Q (F0 m 64 ls [])) (hJ86 : ∀ (x2 : Int32) (x3 : Int32) (x4 : Int32) (x5 : Int32) (u7 : zSt) (H : Heap) (locs : List Loc) (ls : Array Slot), J86 x2 x3 x4 x5 u7 → zDy D A s.heap (k7 a cI cZ u7) H locs → lv_has ls 6 [(0, .ref (a 7 99)), (2, .int x2), (3, .int x3), (4, .int x4), (5, .int x5)] → W p l e ({ frames := 1, cells := 0, slots := 0, locals := 24 } : Room) s m args below meth c H locs 0 0 Q (F0 m 86 ls [])) (hJ120 : ∀ (x2 : Int32) (x3 : Int32) (x4 : Int32) (x5 : Int32) (u7 : zSt) (H : Heap) (locs : List Loc) (ls : Array Slot), J120 x2 x3 x4 x5 u7 → zDy D A s.heap (k7 a cI cZ u7) H locs → lv_has ls 6 [(0, .ref (a 7 99)), (2, .int x2), (3, .int x3), (4, .int x4), (5, .int x5)] → W p l e ({ frames := 1, cells := 0, slots := 0, locals := 24 } : Room) s m args below meth c H locs 0 0 Q (F0 m 120 ls [])) (hv : wp_X7_most_0 J10 J38 J64 J86 J120 Q1  u7) : W p l e ({ frames := 1, cells := 0, slots := 0, locals := 24 } : Room) s m args below meth c H locs 0 0 Q (F0 m 0 ls []) := by
  unfold wp_X7_most_0 at hv
  obtain ⟨hx, hb, hml, hown, hts, hK, hA⟩ := id C
  refine lv_aload_n hx hb dX7_most_0 rfl (lv_at hl 0 rfl) ?_
  refine lv_iconst (v := 0) hx hb dX7_most_1 (by decide) ?_
  refine z_putI C Y (Cn := RX7) (T := TX7) (N := 42) in_X7_most_7 rfl tyX7 tyX7_ok nmX7 (ge7_7 ..) 0 (by decide) fl_X7_most_93 rfl (by decide +kernel) (Nat.le_of_ble_eq_true rfl) (si7_7_0 ..) dX7_most_2 (fun H locs Y => ?_)
  obtain ⟨u7_1, eu7_1, Y, hv⟩ := z_nm (kf := fun z => (k7 a cI cZ z)) Y hv
  refine lv_iconst (v := 0) hx hb dX7_most_5 (by decide) ?_
  refine z_topi hv (fun x1_2 ex1_2 hv => ?_)
  refine lv_istore_n (lv' := [(1, .int x1_2), (0, .ref (a 7 99))]) hx hb dX7_most_6 rfl hl (by decide) rfl (fun ls hl => ?_)
  refine lv_bipush (v := 9) hx hb dX7_most_7 (by decide) ?_
  refine z_topi hv (fun x2_3 ex2_3 hv => ?_)
  refine lv_istore_n (lv' := [(2, .int x2_3), (1, .int x1_2), (0, .ref (a 7 99))]) hx hb dX7_most_9 rfl hl (by decide) rfl (fun ls hl => ?_)
  exact hJ10 _ _ _ _ _ _ hv Y (lv_sub hl [2, 1, 0] rfl)

def wp_X7_most_10 (J10 : Int32 → Int32 → zSt → Prop) (J38 : Int32 → zSt → Prop) (J64 : Int32 → Int32 → zSt → Prop) (J86 : Int32 → Int32 → Int32 → Int32 → zSt → Prop) (J120 : Int32 → Int32 → Int32 → Int32 → zSt → Prop) (Q1 : Int32 → zSt → Prop) (x1 : Int32) (x2 : Int32) (u7 : zSt) : Prop :=
  (x2 < (0 : Int32) → ∀ x2_1 : Int32, x2_1 = 0 → J38 x2_1 u7) ∧ (¬ x2 < (0 : Int32) → vp_in x2 10 ∧ (∀ x1_2 : Int32, x1_2 = (x1 + (u7.2 30 x2.toNatClampNeg)) → vp_in x2 10 ∧ (∀ u7_3 : zSt, u7_3 = zA u7 35 (upd (u7.2 35) x2.toNatClampNeg x1_2) → ∀ x2_4 : Int32, x2_4 = x2 + (-1) → J10 x1_2 x2_4 u7_3)))

set_option maxHeartbeats 4000000 in
set_option maxRecDepth 100000 in
theorem bk_X7_most_10 {a : Nat → Nat → Nat} {J10 : Int32 → Int32 → zSt → Prop} {J38 : Int32 → zSt → Prop} {J64 : Int32 → Int32 → zSt → Prop} {J86 : Int32 → Int32 → Int32 → Int32 → zSt → Prop} {J120 : Int32 → Int32 → Int32 → Int32 → zSt → Prop} {Q1 : Int32 → zSt → Prop} {x1 : Int32} {x2 : Int32} {u7 : zSt} (C : zCx p s m args c cX7_most 6 RX7 wsX7_most D cI cZ cJ A) (Y : zDy D A s.heap (k7 a cI cZ u7) H locs) (hl : lv_has ls 6 [(0, .ref (a 7 99)), (1, .int x1), (2, .int x2)]) (hret : ∀ {pc : Nat} {H : Heap} {locs : List Loc} {ls : Array Slot} {r : Int32} {u : zSt}, zDy D A s.heap ((fun u : zSt => k7 a cI cZ u) u) H locs → Q1 r u → decode cX7_most pc = .ok (.ireturn, 1) → W p l e ({ frames := 1, cells := 0, slots := 0, locals := 24 } : Room) s m args below meth c H locs 0 0 Q (F0 m pc ls [.int r])) (hJ10 : ∀ (x1 : Int32) (x2 : Int32) (u7 : zSt) (H : Heap) (locs : List Loc) (ls : Array Slot), J10 x1 x2 u7 → zDy D A s.heap (k7 a cI cZ u7) H locs → lv_has ls 6 [(0, .ref (a 7 99)), (1, .int x1), (2, .int x2)] → W p l e ({ frames := 1, cells := 0, slots := 0, locals := 24 } : Room) s m args below meth c H locs 0 0 Q (F0 m 10 ls [])) (hJ38 : ∀ (x2 : Int32) (u7 : zSt) (H : Heap) (locs : List Loc) (ls : Array Slot), J38 x2 u7 → zDy D A s.heap (k7 a cI cZ u7) H locs → lv_has ls 6 [(0, .ref (a 7 99)), (2, .int x2)] → W p l e ({ frames := 1, cells := 0, slots := 0, locals := 24 } : Room) s m args below meth c H locs 0 0 Q (F0 m 38 ls [])) (hJ64 : ∀ (x2 : Int32) (x3 : Int32) (u7 : zSt) (H : Heap) (locs : List Loc) (ls : Array Slot), J64 x2 x3 u7 → zDy D A s.heap (k7 a cI cZ u7) H locs → lv_has ls 6 [(0, .ref (a 7 99)), (2, .int x2), (3, .int x3)] → W p l e ({ frames := 1, cells := 0, slots := 0, locals := 24 } : Room) s m args below meth c H locs 0 0 Q (F0 m 64 ls [])) (hJ86 : ∀ (x2 : Int32) (x3 : Int32) (x4 : Int32) (x5 : Int32) (u7 : zSt) (H : Heap) (locs : List Loc) (ls : Array Slot), J86 x2 x3 x4 x5 u7 → zDy D A s.heap (k7 a cI cZ u7) H locs → lv_has ls 6 [(0, .ref (a 7 99)), (2, .int x2), (3, .int x3), (4, .int x4), (5, .int x5)] → W p l e ({ frames := 1, cells := 0, slots := 0, locals := 24 } : Room) s m args below meth c H locs 0 0 Q (F0 m 86 ls [])) (hJ120 : ∀ (x2 : Int32) (x3 : Int32) (x4 : Int32) (x5 : Int32) (u7 : zSt) (H : Heap) (locs : List Loc) (ls : Array Slot), J120 x2 x3 x4 x5 u7 → zDy D A s.heap (k7 a cI cZ u7) H locs → lv_has ls 6 [(0, .ref (a 7 99)), (2, .int x2), (3, .int x3), (4, .int x4), (5, .int x5)] → W p l e ({ frames := 1, cells := 0, slots := 0, locals := 24 } : Room) s m args below meth c H locs 0 0 Q (F0 m 120 ls [])) (hv : wp_X7_most_10 J10 J38 J64 J86 J120 Q1 x1 x2 u7) : W p l e ({ frames := 1, cells := 0, slots := 0, locals := 24 } : Room) s m args below meth c H locs 0 0 Q (F0 m 10 ls []) := by
  unfold wp_X7_most_10 at hv
  obtain ⟨hx, hb, hml, hown, hts, hK, hA⟩ := id C
  refine lv_iload_n hx hb dX7_most_10 rfl (lv_at hl 2 rfl) ?_
  refine lv_if_lt (tgt := 36) hx hb dX7_most_11 (by decide) (fun hc => ?_) (fun hc => ?_)
  · have hv := hv.1 hc
    refine lv_iconst (v := 0) hx hb dX7_most_36 (by decide) ?_
    refine z_topi hv (fun x2_1 ex2_1 hv => ?_)
    refine lv_istore_n (lv' := [(2, .int x2_1), (0, .ref (a 7 99)), (1, .int x1)]) hx hb dX7_most_37 rfl hl (by decide) rfl (fun ls hl => ?_)
    exact hJ38 _ _ _ _ _ hv Y (lv_sub hl [1, 0] rfl)
  · have hv := hv.2 hc
    refine lv_iload_n hx hb dX7_most_14 rfl (lv_at hl 1 rfl) ?_
    refine lv_aload_n hx hb dX7_most_15 rfl (lv_at hl 0 rfl) ?_
    refine z_get C Y (Cn := RX7) (T := TX7) (N := 42) in_X7_most_7 rfl (ge7_7 ..) 30 (by decide) fl_X7_most_62 rfl dX7_most_16 ?_
    refine lv_iload_n hx hb dX7_most_19 rfl (lv_at hl 2 rfl) ?_
    obtain ⟨hi, hv⟩ := hv
    refine z_ldI C Y (pa7_7_30 ..) hi dX7_most_20 ?_
    refine lv_iadd hx hb dX7_most_21 ?_
    refine z_topi hv (fun x1_2 ex1_2 hv => ?_)
    refine lv_istore_n (lv' := [(1, .int x1_2), (0, .ref (a 7 99)), (2, .int x2)]) hx hb dX7_most_22 rfl hl (by decide) rfl (fun ls hl => ?_)
    refine lv_aload_n hx hb dX7_most_23 rfl (lv_at hl 1 rfl) ?_
    refine z_get C Y (Cn := RX7) (T := TX7) (N := 42) in_X7_most_7 rfl (ge7_7 ..) 35 (by decide) fl_X7_most_74 rfl dX7_most_24 ?_
    refine lv_iload_n hx hb dX7_most_27 rfl (lv_at hl 2 rfl) ?_
    refine lv_iload_n hx hb dX7_most_28 rfl (lv_at hl 0 rfl) ?_
    obtain ⟨hi, hv⟩ := hv
    refine z_stI C Y (pa7_7_35 ..) (sa7_7_35 ..) hi dX7_most_29 (fun H locs Y => ?_)
    obtain ⟨u7_3, eu7_3, Y, hv⟩ := z_nm (kf := fun z => (k7 a cI cZ z)) Y hv
    obtain ⟨x2_4, ex2_4, hv⟩ := z_nv hv
    refine lv_iinc (v := x2_4) (lv' := [(2, .int x2_4), (1, .int x1_2), (0, .ref (a 7 99))]) hx hb dX7_most_30 hl (k := 2) rfl (by rw [ex2_4]; rfl) (by decide) rfl (fun ls hl => ?_)
    refine lv_goto (tgt := 10) hx hb dX7_most_33 (by decide) ?_
    exact hJ10 _ _ _ _ _ _ hv Y (lv_sub hl [2, 1, 0] rfl)

def wp_X7_most_38 (J10 : Int32 → Int32 → zSt → Prop) (J38 : Int32 → zSt → Prop) (J64 : Int32 → Int32 → zSt → Prop) (J86 : Int32 → Int32 → Int32 → Int32 → zSt → Prop) (J120 : Int32 → Int32 → Int32 → Int32 → zSt → Prop) (Q1 : Int32 → zSt → Prop) (x2 : Int32) (u7 : zSt) : Prop :=
  ((6 : Int32) ≤ x2 → ∀ x2_1 : Int32, x2_1 = 0 → TX7_dearest (fun (r_3 : Int32) (u7_2 : zSt) => ∀ x3_4 : Int32, x3_4 = r_3 → J64 x2_1 x3_4 u7_2)  u7) ∧ (¬ (6 : Int32) ≤ x2 → vp_in x2 6 ∧ (∀ u7_5 : zSt, u7_5 = zA u7 36 (upd (u7.2 36) x2.toNatClampNeg (vp_nar .boolean (0 : Int32))) → ∀ x2_6 : Int32, x2_6 = x2 + 1 → J38 x2_6 u7_5))

set_option maxHeartbeats 4000000 in
set_option maxRecDepth 100000 in
theorem bk_X7_most_38 {a : Nat → Nat → Nat} {J10 : Int32 → Int32 → zSt → Prop} {J38 : Int32 → zSt → Prop} {J64 : Int32 → Int32 → zSt → Prop} {J86 : Int32 → Int32 → Int32 → Int32 → zSt → Prop} {J120 : Int32 → Int32 → Int32 → Int32 → zSt → Prop} {Q1 : Int32 → zSt → Prop} {x2 : Int32} {u7 : zSt} (C : zCx p s m args c cX7_most 6 RX7 wsX7_most D cI cZ cJ A) (Y : zDy D A s.heap (k7 a cI cZ u7) H locs) (hl : lv_has ls 6 [(0, .ref (a 7 99)), (2, .int x2)]) (hret : ∀ {pc : Nat} {H : Heap} {locs : List Loc} {ls : Array Slot} {r : Int32} {u : zSt}, zDy D A s.heap ((fun u : zSt => k7 a cI cZ u) u) H locs → Q1 r u → decode cX7_most pc = .ok (.ireturn, 1) → W p l e ({ frames := 1, cells := 0, slots := 0, locals := 24 } : Room) s m args below meth c H locs 0 0 Q (F0 m pc ls [.int r])) (hJ10 : ∀ (x1 : Int32) (x2 : Int32) (u7 : zSt) (H : Heap) (locs : List Loc) (ls : Array Slot), J10 x1 x2 u7 → zDy D A s.heap (k7 a cI cZ u7) H locs → lv_has ls 6 [(0, .ref (a 7 99)), (1, .int x1), (2, .int x2)] → W p l e ({ frames := 1, cells := 0, slots := 0, locals := 24 } : Room) s m args below meth c H locs 0 0 Q (F0 m 10 ls [])) (hJ38 : ∀ (x2 : Int32) (u7 : zSt) (H : Heap) (locs : List Loc) (ls : Array Slot), J38 x2 u7 → zDy D A s.heap (k7 a cI cZ u7) H locs → lv_has ls 6 [(0, .ref (a 7 99)), (2, .int x2)] → W p l e ({ frames := 1, cells := 0, slots := 0, locals := 24 } : Room) s m args below meth c H locs 0 0 Q (F0 m 38 ls [])) (hJ64 : ∀ (x2 : Int32) (x3 : Int32) (u7 : zSt) (H : Heap) (locs : List Loc) (ls : Array Slot), J64 x2 x3 u7 → zDy D A s.heap (k7 a cI cZ u7) H locs → lv_has ls 6 [(0, .ref (a 7 99)), (2, .int x2), (3, .int x3)] → W p l e ({ frames := 1, cells := 0, slots := 0, locals := 24 } : Room) s m args below meth c H locs 0 0 Q (F0 m 64 ls [])) (hJ86 : ∀ (x2 : Int32) (x3 : Int32) (x4 : Int32) (x5 : Int32) (u7 : zSt) (H : Heap) (locs : List Loc) (ls : Array Slot), J86 x2 x3 x4 x5 u7 → zDy D A s.heap (k7 a cI cZ u7) H locs → lv_has ls 6 [(0, .ref (a 7 99)), (2, .int x2), (3, .int x3), (4, .int x4), (5, .int x5)] → W p l e ({ frames := 1, cells := 0, slots := 0, locals := 24 } : Room) s m args below meth c H locs 0 0 Q (F0 m 86 ls [])) (hJ120 : ∀ (x2 : Int32) (x3 : Int32) (x4 : Int32) (x5 : Int32) (u7 : zSt) (H : Heap) (locs : List Loc) (ls : Array Slot), J120 x2 x3 x4 x5 u7 → zDy D A s.heap (k7 a cI cZ u7) H locs → lv_has ls 6 [(0, .ref (a 7 99)), (2, .int x2), (3, .int x3), (4, .int x4), (5, .int x5)] → W p l e ({ frames := 1, cells := 0, slots := 0, locals := 24 } : Room) s m args below meth c H locs 0 0 Q (F0 m 120 ls [])) (hv : wp_X7_most_38 J10 J38 J64 J86 J120 Q1 x2 u7) : W p l e ({ frames := 1, cells := 0, slots := 0, locals := 24 } : Room) s m args below meth c H locs 0 0 Q (F0 m 38 ls []) := by
  unfold wp_X7_most_38 at hv
  obtain ⟨hx, hb, hml, hown, hts, hK, hA⟩ := id C
  refine lv_iload_n hx hb dX7_most_38 rfl (lv_at hl 1 rfl) ?_
  refine lv_bipush (v := 6) hx hb dX7_most_39 (by decide) ?_
  refine lv_icmp_ge (tgt := 57) hx hb dX7_most_41 (by decide) (fun hc => ?_) (fun hc => ?_)
  · have hv := hv.1 hc
    refine lv_iconst (v := 0) hx hb dX7_most_57 (by decide) ?_
    refine z_topi hv (fun x2_1 ex2_1 hv => ?_)
    refine lv_istore_n (lv' := [(2, .int x2_1), (0, .ref (a 7 99))]) hx hb dX7_most_58 rfl hl (by decide) rfl (fun ls hl => ?_)
    refine lv_aload_n hx hb dX7_most_59 rfl (lv_at hl 1 rfl) ?_
    refine z_callVi C Y (c_X7_dearest l hv) (zFr.self _ _) (cwV 0 hts gX7_most_X7_dearest rfl rfl rfl (by decide +kernel) ⟨(Nat.le_of_ble_eq_true rfl), (Nat.le_of_ble_eq_true rfl)⟩) (ge7_7 ..) rfl rfl rfl hl.1 rfl (Nat.le_of_ble_eq_true rfl) dX7_most_60 ⟨Nat.zero_le _, Nat.zero_le _⟩ (fun r_3 u7_2 H locs Y hv => ?_)
    refine z_topi hv (fun x3_4 ex3_4 hv => ?_)
    refine lv_istore_n (lv' := [(3, .int x3_4), (2, .int x2_1), (0, .ref (a 7 99))]) hx hb dX7_most_63 rfl hl (by decide) rfl (fun ls hl => ?_)
    exact hJ64 _ _ _ _ _ _ hv Y (lv_sub hl [2, 1, 0] rfl)
  · have hv := hv.2 hc
    refine lv_aload_n hx hb dX7_most_44 rfl (lv_at hl 0 rfl) ?_
    refine z_get C Y (Cn := RX7) (T := TX7) (N := 42) in_X7_most_7 rfl (ge7_7 ..) 36 (by decide) fl_X7_most_77 rfl dX7_most_45 ?_
    refine lv_iload_n hx hb dX7_most_48 rfl (lv_at hl 1 rfl) ?_
    refine lv_iconst (v := 0) hx hb dX7_most_49 (by decide) ?_
    obtain ⟨hi, hv⟩ := hv
    refine z_stZ C Y (pa7_7_36 ..) (sa7_7_36 ..) hi dX7_most_50 (fun H locs Y => ?_)
    obtain ⟨u7_5, eu7_5, Y, hv⟩ := z_nm (kf := fun z => (k7 a cI cZ z)) Y hv
    obtain ⟨x2_6, ex2_6, hv⟩ := z_nv hv
    refine lv_iinc (v := x2_6) (lv' := [(2, .int x2_6), (0, .ref (a 7 99))]) hx hb dX7_most_51 hl (k := 1) rfl (by rw [ex2_6]; rfl) (by decide) rfl (fun ls hl => ?_)
    refine lv_goto (tgt := 38) hx hb dX7_most_54 (by decide) ?_
    exact hJ38 _ _ _ _ _ hv Y (lv_sub hl [1, 0] rfl)

def wp_X7_most_64 (J10 : Int32 → Int32 → zSt → Prop) (J38 : Int32 → zSt → Prop) (J64 : Int32 → Int32 → zSt → Prop) (J86 : Int32 → Int32 → Int32 → Int32 → zSt → Prop) (J120 : Int32 → Int32 → Int32 → Int32 → zSt → Prop) (Q1 : Int32 → zSt → Prop) (x2 : Int32) (x3 : Int32) (u7 : zSt) : Prop :=
  (x3 < (0 : Int32) → Q1 x2 u7) ∧ (¬ x3 < (0 : Int32) → vp_in x3 6 ∧ (∀ u7_1 : zSt, u7_1 = zA u7 36 (upd (u7.2 36) x3.toNatClampNeg (vp_nar .boolean (1 : Int32))) → vp_in x3 6 ∧ (∀ x4_2 : Int32, x4_2 = (u7_1.2 33 x3.toNatClampNeg) → ∀ x5_3 : Int32, x5_3 = 0 → J86 x2 x3 x4_2 x5_3 u7_1)))

set_option maxHeartbeats 4000000 in
set_option maxRecDepth 100000 in
theorem bk_X7_most_64 {a : Nat → Nat → Nat} {J10 : Int32 → Int32 → zSt → Prop} {J38 : Int32 → zSt → Prop} {J64 : Int32 → Int32 → zSt → Prop} {J86 : Int32 → Int32 → Int32 → Int32 → zSt → Prop} {J120 : Int32 → Int32 → Int32 → Int32 → zSt → Prop} {Q1 : Int32 → zSt → Prop} {x2 : Int32} {x3 : Int32} {u7 : zSt} (C : zCx p s m args c cX7_most 6 RX7 wsX7_most D cI cZ cJ A) (Y : zDy D A s.heap (k7 a cI cZ u7) H locs) (hl : lv_has ls 6 [(0, .ref (a 7 99)), (2, .int x2), (3, .int x3)]) (hret : ∀ {pc : Nat} {H : Heap} {locs : List Loc} {ls : Array Slot} {r : Int32} {u : zSt}, zDy D A s.heap ((fun u : zSt => k7 a cI cZ u) u) H locs → Q1 r u → decode cX7_most pc = .ok (.ireturn, 1) → W p l e ({ frames := 1, cells := 0, slots := 0, locals := 24 } : Room) s m args below meth c H locs 0 0 Q (F0 m pc ls [.int r])) (hJ10 : ∀ (x1 : Int32) (x2 : Int32) (u7 : zSt) (H : Heap) (locs : List Loc) (ls : Array Slot), J10 x1 x2 u7 → zDy D A s.heap (k7 a cI cZ u7) H locs → lv_has ls 6 [(0, .ref (a 7 99)), (1, .int x1), (2, .int x2)] → W p l e ({ frames := 1, cells := 0, slots := 0, locals := 24 } : Room) s m args below meth c H locs 0 0 Q (F0 m 10 ls [])) (hJ38 : ∀ (x2 : Int32) (u7 : zSt) (H : Heap) (locs : List Loc) (ls : Array Slot), J38 x2 u7 → zDy D A s.heap (k7 a cI cZ u7) H locs → lv_has ls 6 [(0, .ref (a 7 99)), (2, .int x2)] → W p l e ({ frames := 1, cells := 0, slots := 0, locals := 24 } : Room) s m args below meth c H locs 0 0 Q (F0 m 38 ls [])) (hJ64 : ∀ (x2 : Int32) (x3 : Int32) (u7 : zSt) (H : Heap) (locs : List Loc) (ls : Array Slot), J64 x2 x3 u7 → zDy D A s.heap (k7 a cI cZ u7) H locs → lv_has ls 6 [(0, .ref (a 7 99)), (2, .int x2), (3, .int x3)] → W p l e ({ frames := 1, cells := 0, slots := 0, locals := 24 } : Room) s m args below meth c H locs 0 0 Q (F0 m 64 ls [])) (hJ86 : ∀ (x2 : Int32) (x3 : Int32) (x4 : Int32) (x5 : Int32) (u7 : zSt) (H : Heap) (locs : List Loc) (ls : Array Slot), J86 x2 x3 x4 x5 u7 → zDy D A s.heap (k7 a cI cZ u7) H locs → lv_has ls 6 [(0, .ref (a 7 99)), (2, .int x2), (3, .int x3), (4, .int x4), (5, .int x5)] → W p l e ({ frames := 1, cells := 0, slots := 0, locals := 24 } : Room) s m args below meth c H locs 0 0 Q (F0 m 86 ls [])) (hJ120 : ∀ (x2 : Int32) (x3 : Int32) (x4 : Int32) (x5 : Int32) (u7 : zSt) (H : Heap) (locs : List Loc) (ls : Array Slot), J120 x2 x3 x4 x5 u7 → zDy D A s.heap (k7 a cI cZ u7) H locs → lv_has ls 6 [(0, .ref (a 7 99)), (2, .int x2), (3, .int x3), (4, .int x4), (5, .int x5)] → W p l e ({ frames := 1, cells := 0, slots := 0, locals := 24 } : Room) s m args below meth c H locs 0 0 Q (F0 m 120 ls [])) (hv : wp_X7_most_64 J10 J38 J64 J86 J120 Q1 x2 x3 u7) : W p l e ({ frames := 1, cells := 0, slots := 0, locals := 24 } : Room) s m args below meth c H locs 0 0 Q (F0 m 64 ls []) := by
  unfold wp_X7_most_64 at hv
  obtain ⟨hx, hb, hml, hown, hts, hK, hA⟩ := id C
  refine lv_iload_n hx hb dX7_most_64 rfl (lv_at hl 2 rfl) ?_
  refine lv_if_lt (tgt := 169) hx hb dX7_most_65 (by decide) (fun hc => ?_) (fun hc => ?_)
  · have hv := hv.1 hc
    refine lv_iload_n hx hb dX7_most_169 rfl (lv_at hl 1 rfl) ?_
    exact hret Y hv dX7_most_170
  · have hv := hv.2 hc
    refine lv_aload_n hx hb dX7_most_68 rfl (lv_at hl 0 rfl) ?_
    refine z_get C Y (Cn := RX7) (T := TX7) (N := 42) in_X7_most_7 rfl (ge7_7 ..) 36 (by decide) fl_X7_most_77 rfl dX7_most_69 ?_
    refine lv_iload_n hx hb dX7_most_72 rfl (lv_at hl 2 rfl) ?_
    refine lv_iconst (v := 1) hx hb dX7_most_73 (by decide) ?_
    obtain ⟨hi, hv⟩ := hv
    refine z_stZ C Y (pa7_7_36 ..) (sa7_7_36 ..) hi dX7_most_74 (fun H locs Y => ?_)
    obtain ⟨u7_1, eu7_1, Y, hv⟩ := z_nm (kf := fun z => (k7 a cI cZ z)) Y hv
    refine lv_aload_n hx hb dX7_most_75 rfl (lv_at hl 0 rfl) ?_
    refine z_get C Y (Cn := RX7) (T := TX7) (N := 42) in_X7_most_7 rfl (ge7_7 ..) 33 (by decide) fl_X7_most_71 rfl dX7_most_76 ?_
    refine lv_iload_n hx hb dX7_most_79 rfl (lv_at hl 2 rfl) ?_
    obtain ⟨hi, hv⟩ := hv
    refine z_ldI C Y (pa7_7_33 ..) hi dX7_most_80 ?_
    refine z_topi hv (fun x4_2 ex4_2 hv => ?_)
    refine lv_istore (lv' := [(4, .int x4_2), (0, .ref (a 7 99)), (2, .int x2), (3, .int x3)]) hx hb dX7_most_81 hl (by decide) rfl (fun ls hl => ?_)
    refine lv_iconst (v := 0) hx hb dX7_most_83 (by decide) ?_
    refine z_topi hv (fun x5_3 ex5_3 hv => ?_)
    refine lv_istore (lv' := [(5, .int x5_3), (4, .int x4_2), (0, .ref (a 7 99)), (2, .int x2), (3, .int x3)]) hx hb dX7_most_84 hl (by decide) rfl (fun ls hl => ?_)
    exact hJ86 _ _ _ _ _ _ _ _ hv Y (lv_sub hl [2, 3, 4, 1, 0] rfl)

def wp_X7_most_86 (J10 : Int32 → Int32 → zSt → Prop) (J38 : Int32 → zSt → Prop) (J64 : Int32 → Int32 → zSt → Prop) (J86 : Int32 → Int32 → Int32 → Int32 → zSt → Prop) (J120 : Int32 → Int32 → Int32 → Int32 → zSt → Prop) (Q1 : Int32 → zSt → Prop) (x2 : Int32) (x3 : Int32) (x4 : Int32) (x5 : Int32) (u7 : zSt) : Prop :=
  vp_in x3 6 ∧ (((u7.2 31 x3.toNatClampNeg) < x5 → ∀ x5_1 : Int32, x5_1 = 0 → J120 x2 x3 x4 x5_1 u7) ∧ (¬ (u7.2 31 x3.toNatClampNeg) < x5 → vp_in x5 10 ∧ (∀ x4_2 : Int32, x4_2 = (if (u7.2 35 x5.toNatClampNeg) < x4 then (u7.2 35 x5.toNatClampNeg) else x4) → ∀ x5_3 : Int32, x5_3 = x5 + 1 → J86 x2 x3 x4_2 x5_3 u7)))

set_option maxHeartbeats 4000000 in
set_option maxRecDepth 100000 in
theorem bk_X7_most_86 {a : Nat → Nat → Nat} {J10 : Int32 → Int32 → zSt → Prop} {J38 : Int32 → zSt → Prop} {J64 : Int32 → Int32 → zSt → Prop} {J86 : Int32 → Int32 → Int32 → Int32 → zSt → Prop} {J120 : Int32 → Int32 → Int32 → Int32 → zSt → Prop} {Q1 : Int32 → zSt → Prop} {x2 : Int32} {x3 : Int32} {x4 : Int32} {x5 : Int32} {u7 : zSt} (C : zCx p s m args c cX7_most 6 RX7 wsX7_most D cI cZ cJ A) (Y : zDy D A s.heap (k7 a cI cZ u7) H locs) (hl : lv_has ls 6 [(0, .ref (a 7 99)), (2, .int x2), (3, .int x3), (4, .int x4), (5, .int x5)]) (hret : ∀ {pc : Nat} {H : Heap} {locs : List Loc} {ls : Array Slot} {r : Int32} {u : zSt}, zDy D A s.heap ((fun u : zSt => k7 a cI cZ u) u) H locs → Q1 r u → decode cX7_most pc = .ok (.ireturn, 1) → W p l e ({ frames := 1, cells := 0, slots := 0, locals := 24 } : Room) s m args below meth c H locs 0 0 Q (F0 m pc ls [.int r])) (hJ10 : ∀ (x1 : Int32) (x2 : Int32) (u7 : zSt) (H : Heap) (locs : List Loc) (ls : Array Slot), J10 x1 x2 u7 → zDy D A s.heap (k7 a cI cZ u7) H locs → lv_has ls 6 [(0, .ref (a 7 99)), (1, .int x1), (2, .int x2)] → W p l e ({ frames := 1, cells := 0, slots := 0, locals := 24 } : Room) s m args below meth c H locs 0 0 Q (F0 m 10 ls [])) (hJ38 : ∀ (x2 : Int32) (u7 : zSt) (H : Heap) (locs : List Loc) (ls : Array Slot), J38 x2 u7 → zDy D A s.heap (k7 a cI cZ u7) H locs → lv_has ls 6 [(0, .ref (a 7 99)), (2, .int x2)] → W p l e ({ frames := 1, cells := 0, slots := 0, locals := 24 } : Room) s m args below meth c H locs 0 0 Q (F0 m 38 ls [])) (hJ64 : ∀ (x2 : Int32) (x3 : Int32) (u7 : zSt) (H : Heap) (locs : List Loc) (ls : Array Slot), J64 x2 x3 u7 → zDy D A s.heap (k7 a cI cZ u7) H locs → lv_has ls 6 [(0, .ref (a 7 99)), (2, .int x2), (3, .int x3)] → W p l e ({ frames := 1, cells := 0, slots := 0, locals := 24 } : Room) s m args below meth c H locs 0 0 Q (F0 m 64 ls [])) (hJ86 : ∀ (x2 : Int32) (x3 : Int32) (x4 : Int32) (x5 : Int32) (u7 : zSt) (H : Heap) (locs : List Loc) (ls : Array Slot), J86 x2 x3 x4 x5 u7 → zDy D A s.heap (k7 a cI cZ u7) H locs → lv_has ls 6 [(0, .ref (a 7 99)), (2, .int x2), (3, .int x3), (4, .int x4), (5, .int x5)] → W p l e ({ frames := 1, cells := 0, slots := 0, locals := 24 } : Room) s m args below meth c H locs 0 0 Q (F0 m 86 ls [])) (hJ120 : ∀ (x2 : Int32) (x3 : Int32) (x4 : Int32) (x5 : Int32) (u7 : zSt) (H : Heap) (locs : List Loc) (ls : Array Slot), J120 x2 x3 x4 x5 u7 → zDy D A s.heap (k7 a cI cZ u7) H locs → lv_has ls 6 [(0, .ref (a 7 99)), (2, .int x2), (3, .int x3), (4, .int x4), (5, .int x5)] → W p l e ({ frames := 1, cells := 0, slots := 0, locals := 24 } : Room) s m args below meth c H locs 0 0 Q (F0 m 120 ls [])) (hv : wp_X7_most_86 J10 J38 J64 J86 J120 Q1 x2 x3 x4 x5 u7) : W p l e ({ frames := 1, cells := 0, slots := 0, locals := 24 } : Room) s m args below meth c H locs 0 0 Q (F0 m 86 ls []) := by
  unfold wp_X7_most_86 at hv
  obtain ⟨hx, hb, hml, hown, hts, hK, hA⟩ := id C
  refine lv_iload hx hb dX7_most_86 (lv_at hl 4 rfl) ?_
  refine lv_aload_n hx hb dX7_most_88 rfl (lv_at hl 0 rfl) ?_
  refine z_get C Y (Cn := RX7) (T := TX7) (N := 42) in_X7_most_7 rfl (ge7_7 ..) 31 (by decide) fl_X7_most_65 rfl dX7_most_89 ?_
  refine lv_iload_n hx hb dX7_most_92 rfl (lv_at hl 2 rfl) ?_
  obtain ⟨hi, hv⟩ := hv
  refine z_ldI C Y (pa7_7_31 ..) hi dX7_most_93 ?_
  refine lv_icmp_gt (tgt := 117) hx hb dX7_most_94 (by decide) (fun hc => ?_) (fun hc => ?_)
  · have hv := hv.1 hc
    refine lv_iconst (v := 0) hx hb dX7_most_117 (by decide) ?_
    refine z_topi hv (fun x5_1 ex5_1 hv => ?_)
    refine lv_istore (lv' := [(5, .int x5_1), (0, .ref (a 7 99)), (2, .int x2), (3, .int x3), (4, .int x4)]) hx hb dX7_most_118 hl (by decide) rfl (fun ls hl => ?_)
    exact hJ120 _ _ _ _ _ _ _ _ hv Y (lv_sub hl [1, 2, 3, 4, 0] rfl)
  · have hv := hv.2 hc
    refine lv_iload hx hb dX7_most_97 (lv_at hl 3 rfl) ?_
    refine lv_aload_n hx hb dX7_most_99 rfl (lv_at hl 0 rfl) ?_
    refine z_get C Y (Cn := RX7) (T := TX7) (N := 42) in_X7_most_7 rfl (ge7_7 ..) 35 (by decide) fl_X7_most_74 rfl dX7_most_100 ?_
    refine lv_iload hx hb dX7_most_103 (lv_at hl 4 rfl) ?_
    obtain ⟨hi, hv⟩ := hv
    refine z_ldI C Y (pa7_7_35 ..) hi dX7_most_105 ?_
    refine z_mmin C hl.1 mm_X7_most_min (Nat.le_of_ble_eq_true rfl) (Nat.le_of_ble_eq_true rfl) (Nat.zero_le _) (Nat.zero_le _) dX7_most_106 ?_
    refine z_topi hv (fun x4_2 ex4_2 hv => ?_)
    refine lv_istore (lv' := [(4, .int x4_2), (0, .ref (a 7 99)), (2, .int x2), (3, .int x3), (5, .int x5)]) hx hb dX7_most_109 hl (by decide) rfl (fun ls hl => ?_)
    obtain ⟨x5_3, ex5_3, hv⟩ := z_nv hv
    refine lv_iinc (v := x5_3) (lv' := [(5, .int x5_3), (4, .int x4_2), (0, .ref (a 7 99)), (2, .int x2), (3, .int x3)]) hx hb dX7_most_111 hl (k := 4) rfl (by rw [ex5_3]; rfl) (by decide) rfl (fun ls hl => ?_)
    refine lv_goto (tgt := 86) hx hb dX7_most_114 (by decide) ?_
    exact hJ86 _ _ _ _ _ _ _ _ hv Y (lv_sub hl [2, 3, 4, 1, 0] rfl)

def wp_X7_most_120 (J10 : Int32 → Int32 → zSt → Prop) (J38 : Int32 → zSt → Prop) (J64 : Int32 → Int32 → zSt → Prop) (J86 : Int32 → Int32 → Int32 → Int32 → zSt → Prop) (J120 : Int32 → Int32 → Int32 → Int32 → zSt → Prop) (Q1 : Int32 → zSt → Prop) (x2 : Int32) (x3 : Int32) (x4 : Int32) (x5 : Int32) (u7 : zSt) : Prop :=
  vp_in x3 6 ∧ (((u7.2 31 x3.toNatClampNeg) < x5 → vp_in x3 6 ∧ (∀ x2_1 : Int32, x2_1 = (x2 + (x4 * (u7.2 32 x3.toNatClampNeg))) → TX7_dearest (fun (r_3 : Int32) (u7_2 : zSt) => ∀ x3_4 : Int32, x3_4 = r_3 → J64 x2_1 x3_4 u7_2)  u7)) ∧ (¬ (u7.2 31 x3.toNatClampNeg) < x5 → vp_in x5 10 ∧ (vp_in x5 10 ∧ (∀ u7_5 : zSt, u7_5 = zA u7 35 (upd (u7.2 35) x5.toNatClampNeg ((u7.2 35 x5.toNatClampNeg) - x4)) → ∀ x5_6 : Int32, x5_6 = x5 + 1 → J120 x2 x3 x4 x5_6 u7_5))))

set_option maxHeartbeats 4000000 in
set_option maxRecDepth 100000 in
theorem bk_X7_most_120 {a : Nat → Nat → Nat} {J10 : Int32 → Int32 → zSt → Prop} {J38 : Int32 → zSt → Prop} {J64 : Int32 → Int32 → zSt → Prop} {J86 : Int32 → Int32 → Int32 → Int32 → zSt → Prop} {J120 : Int32 → Int32 → Int32 → Int32 → zSt → Prop} {Q1 : Int32 → zSt → Prop} {x2 : Int32} {x3 : Int32} {x4 : Int32} {x5 : Int32} {u7 : zSt} (C : zCx p s m args c cX7_most 6 RX7 wsX7_most D cI cZ cJ A) (Y : zDy D A s.heap (k7 a cI cZ u7) H locs) (hl : lv_has ls 6 [(0, .ref (a 7 99)), (2, .int x2), (3, .int x3), (4, .int x4), (5, .int x5)]) (hret : ∀ {pc : Nat} {H : Heap} {locs : List Loc} {ls : Array Slot} {r : Int32} {u : zSt}, zDy D A s.heap ((fun u : zSt => k7 a cI cZ u) u) H locs → Q1 r u → decode cX7_most pc = .ok (.ireturn, 1) → W p l e ({ frames := 1, cells := 0, slots := 0, locals := 24 } : Room) s m args below meth c H locs 0 0 Q (F0 m pc ls [.int r])) (hJ10 : ∀ (x1 : Int32) (x2 : Int32) (u7 : zSt) (H : Heap) (locs : List Loc) (ls : Array Slot), J10 x1 x2 u7 → zDy D A s.heap (k7 a cI cZ u7) H locs → lv_has ls 6 [(0, .ref (a 7 99)), (1, .int x1), (2, .int x2)] → W p l e ({ frames := 1, cells := 0, slots := 0, locals := 24 } : Room) s m args below meth c H locs 0 0 Q (F0 m 10 ls [])) (hJ38 : ∀ (x2 : Int32) (u7 : zSt) (H : Heap) (locs : List Loc) (ls : Array Slot), J38 x2 u7 → zDy D A s.heap (k7 a cI cZ u7) H locs → lv_has ls 6 [(0, .ref (a 7 99)), (2, .int x2)] → W p l e ({ frames := 1, cells := 0, slots := 0, locals := 24 } : Room) s m args below meth c H locs 0 0 Q (F0 m 38 ls [])) (hJ64 : ∀ (x2 : Int32) (x3 : Int32) (u7 : zSt) (H : Heap) (locs : List Loc) (ls : Array Slot), J64 x2 x3 u7 → zDy D A s.heap (k7 a cI cZ u7) H locs → lv_has ls 6 [(0, .ref (a 7 99)), (2, .int x2), (3, .int x3)] → W p l e ({ frames := 1, cells := 0, slots := 0, locals := 24 } : Room) s m args below meth c H locs 0 0 Q (F0 m 64 ls [])) (hJ86 : ∀ (x2 : Int32) (x3 : Int32) (x4 : Int32) (x5 : Int32) (u7 : zSt) (H : Heap) (locs : List Loc) (ls : Array Slot), J86 x2 x3 x4 x5 u7 → zDy D A s.heap (k7 a cI cZ u7) H locs → lv_has ls 6 [(0, .ref (a 7 99)), (2, .int x2), (3, .int x3), (4, .int x4), (5, .int x5)] → W p l e ({ frames := 1, cells := 0, slots := 0, locals := 24 } : Room) s m args below meth c H locs 0 0 Q (F0 m 86 ls [])) (hJ120 : ∀ (x2 : Int32) (x3 : Int32) (x4 : Int32) (x5 : Int32) (u7 : zSt) (H : Heap) (locs : List Loc) (ls : Array Slot), J120 x2 x3 x4 x5 u7 → zDy D A s.heap (k7 a cI cZ u7) H locs → lv_has ls 6 [(0, .ref (a 7 99)), (2, .int x2), (3, .int x3), (4, .int x4), (5, .int x5)] → W p l e ({ frames := 1, cells := 0, slots := 0, locals := 24 } : Room) s m args below meth c H locs 0 0 Q (F0 m 120 ls [])) (hv : wp_X7_most_120 J10 J38 J64 J86 J120 Q1 x2 x3 x4 x5 u7) : W p l e ({ frames := 1, cells := 0, slots := 0, locals := 24 } : Room) s m args below meth c H locs 0 0 Q (F0 m 120 ls []) := by
  unfold wp_X7_most_120 at hv
  obtain ⟨hx, hb, hml, hown, hts, hK, hA⟩ := id C
  refine lv_iload hx hb dX7_most_120 (lv_at hl 4 rfl) ?_
  refine lv_aload_n hx hb dX7_most_122 rfl (lv_at hl 0 rfl) ?_
  refine z_get C Y (Cn := RX7) (T := TX7) (N := 42) in_X7_most_7 rfl (ge7_7 ..) 31 (by decide) fl_X7_most_65 rfl dX7_most_123 ?_
  refine lv_iload_n hx hb dX7_most_126 rfl (lv_at hl 2 rfl) ?_
  obtain ⟨hi, hv⟩ := hv
  refine z_ldI C Y (pa7_7_31 ..) hi dX7_most_127 ?_
  refine lv_icmp_gt (tgt := 149) hx hb dX7_most_128 (by decide) (fun hc => ?_) (fun hc => ?_)
  · have hv := hv.1 hc
    refine lv_iload_n hx hb dX7_most_149 rfl (lv_at hl 1 rfl) ?_
    refine lv_iload hx hb dX7_most_150 (lv_at hl 3 rfl) ?_
    refine lv_aload_n hx hb dX7_most_152 rfl (lv_at hl 0 rfl) ?_
    refine z_get C Y (Cn := RX7) (T := TX7) (N := 42) in_X7_most_7 rfl (ge7_7 ..) 32 (by decide) fl_X7_most_68 rfl dX7_most_153 ?_
    refine lv_iload_n hx hb dX7_most_156 rfl (lv_at hl 2 rfl) ?_
    obtain ⟨hi, hv⟩ := hv
    refine z_ldI C Y (pa7_7_32 ..) hi dX7_most_157 ?_
    refine lv_imul hx hb dX7_most_158 ?_
    refine lv_iadd hx hb dX7_most_159 ?_
    refine z_topi hv (fun x2_1 ex2_1 hv => ?_)
    refine lv_istore_n (lv' := [(2, .int x2_1), (0, .ref (a 7 99)), (3, .int x3), (4, .int x4), (5, .int x5)]) hx hb dX7_most_160 rfl hl (by decide) rfl (fun ls hl => ?_)
    refine lv_aload_n hx hb dX7_most_161 rfl (lv_at hl 1 rfl) ?_
    refine z_callVi C Y (c_X7_dearest l hv) (zFr.self _ _) (cwV 0 hts gX7_most_X7_dearest rfl rfl rfl (by decide +kernel) ⟨(Nat.le_of_ble_eq_true rfl), (Nat.le_of_ble_eq_true rfl)⟩) (ge7_7 ..) rfl rfl rfl hl.1 rfl (Nat.le_of_ble_eq_true rfl) dX7_most_162 ⟨Nat.zero_le _, Nat.zero_le _⟩ (fun r_3 u7_2 H locs Y hv => ?_)
    refine z_topi hv (fun x3_4 ex3_4 hv => ?_)
    refine lv_istore_n (lv' := [(3, .int x3_4), (2, .int x2_1), (0, .ref (a 7 99)), (4, .int x4), (5, .int x5)]) hx hb dX7_most_165 rfl hl (by decide) rfl (fun ls hl => ?_)
    refine lv_goto (tgt := 64) hx hb dX7_most_166 (by decide) ?_
    exact hJ64 _ _ _ _ _ _ hv Y (lv_sub hl [2, 1, 0] rfl)
  · have hv := hv.2 hc
    refine lv_aload_n hx hb dX7_most_131 rfl (lv_at hl 0 rfl) ?_
    refine z_get C Y (Cn := RX7) (T := TX7) (N := 42) in_X7_most_7 rfl (ge7_7 ..) 35 (by decide) fl_X7_most_74 rfl dX7_most_132 ?_
    refine lv_iload hx hb dX7_most_135 (lv_at hl 4 rfl) ?_
    refine lv_dup2_11 hx hb dX7_most_137 rfl rfl ?_
    obtain ⟨hi, hv⟩ := hv
    refine z_ldI C Y (pa7_7_35 ..) hi dX7_most_138 ?_
    refine lv_iload hx hb dX7_most_139 (lv_at hl 3 rfl) ?_
    refine lv_isub hx hb dX7_most_141 ?_
    obtain ⟨hi, hv⟩ := hv
    refine z_stI C Y (pa7_7_35 ..) (sa7_7_35 ..) hi dX7_most_142 (fun H locs Y => ?_)
    obtain ⟨u7_5, eu7_5, Y, hv⟩ := z_nm (kf := fun z => (k7 a cI cZ z)) Y hv
    obtain ⟨x5_6, ex5_6, hv⟩ := z_nv hv
    refine lv_iinc (v := x5_6) (lv' := [(5, .int x5_6), (0, .ref (a 7 99)), (2, .int x2), (3, .int x3), (4, .int x4)]) hx hb dX7_most_143 hl (k := 4) rfl (by rw [ex5_6]; rfl) (by decide) rfl (fun ls hl => ?_)
    refine lv_goto (tgt := 120) hx hb dX7_most_146 (by decide) ?_
    exact hJ120 _ _ _ _ _ _ _ _ hv Y (lv_sub hl [1, 2, 3, 4, 0] rfl)

end
set_option maxHeartbeats 4000000 in
set_option maxRecDepth 100000 in
theorem k_X7_most (l : Launch) {D : va_G} {cI cZ cJ : ClassId} {a : Nat → Nat → Nat} {Q1 : Int32 → zSt → Prop} {u7 : zSt} (I10 : Nat → Int32 → Int32 → zSt → Prop) (I38 : Nat → Int32 → zSt → Prop) (I64 : Nat → Int32 → Int32 → zSt → Prop) (I86 : Nat → Int32 → Int32 → Int32 → Int32 → zSt → Prop) (I120 : Nat → Int32 → Int32 → Int32 → Int32 → zSt → Prop)
    (hv : wp_X7_most_0 (fun x1 x2 u7 => ∃ n : Nat, I10 n x1 x2 u7) (fun x2 u7 => ∃ n : Nat, I38 n x2 u7) (fun x2 x3 u7 => ∃ n : Nat, I64 n x2 x3 u7) (fun x2 x3 x4 x5 u7 => ∃ n : Nat, I86 n x2 x3 x4 x5 u7) (fun x2 x3 x4 x5 u7 => ∃ n : Nat, I120 n x2 x3 x4 x5 u7) Q1  u7)
    (hI10 : ∀ (n : Nat) (x1 : Int32) (x2 : Int32) (u7 : zSt), I10 n x1 x2 u7 → wp_X7_most_10 (fun x1 x2 u7 => ∃ k : Nat, k < n ∧ I10 k x1 x2 u7) (fun x2 u7 => ∃ k : Nat, k < n ∧ I38 k x2 u7) (fun x2 x3 u7 => ∃ k : Nat, k < n ∧ I64 k x2 x3 u7) (fun x2 x3 x4 x5 u7 => ∃ k : Nat, k < n ∧ I86 k x2 x3 x4 x5 u7) (fun x2 x3 x4 x5 u7 => ∃ k : Nat, k < n ∧ I120 k x2 x3 x4 x5 u7) Q1 x1 x2 u7)
    (hI38 : ∀ (n : Nat) (x2 : Int32) (u7 : zSt), I38 n x2 u7 → wp_X7_most_38 (fun x1 x2 u7 => ∃ k : Nat, k < n ∧ I10 k x1 x2 u7) (fun x2 u7 => ∃ k : Nat, k < n ∧ I38 k x2 u7) (fun x2 x3 u7 => ∃ k : Nat, k < n ∧ I64 k x2 x3 u7) (fun x2 x3 x4 x5 u7 => ∃ k : Nat, k < n ∧ I86 k x2 x3 x4 x5 u7) (fun x2 x3 x4 x5 u7 => ∃ k : Nat, k < n ∧ I120 k x2 x3 x4 x5 u7) Q1 x2 u7)
    (hI64 : ∀ (n : Nat) (x2 : Int32) (x3 : Int32) (u7 : zSt), I64 n x2 x3 u7 → wp_X7_most_64 (fun x1 x2 u7 => ∃ k : Nat, k < n ∧ I10 k x1 x2 u7) (fun x2 u7 => ∃ k : Nat, k < n ∧ I38 k x2 u7) (fun x2 x3 u7 => ∃ k : Nat, k < n ∧ I64 k x2 x3 u7) (fun x2 x3 x4 x5 u7 => ∃ k : Nat, k < n ∧ I86 k x2 x3 x4 x5 u7) (fun x2 x3 x4 x5 u7 => ∃ k : Nat, k < n ∧ I120 k x2 x3 x4 x5 u7) Q1 x2 x3 u7)
    (hI86 : ∀ (n : Nat) (x2 : Int32) (x3 : Int32) (x4 : Int32) (x5 : Int32) (u7 : zSt), I86 n x2 x3 x4 x5 u7 → wp_X7_most_86 (fun x1 x2 u7 => ∃ k : Nat, k < n ∧ I10 k x1 x2 u7) (fun x2 u7 => ∃ k : Nat, k < n ∧ I38 k x2 u7) (fun x2 x3 u7 => ∃ k : Nat, k < n ∧ I64 k x2 x3 u7) (fun x2 x3 x4 x5 u7 => ∃ k : Nat, k < n ∧ I86 k x2 x3 x4 x5 u7) (fun x2 x3 x4 x5 u7 => ∃ k : Nat, k < n ∧ I120 k x2 x3 x4 x5 u7) Q1 x2 x3 x4 x5 u7)
    (hI120 : ∀ (n : Nat) (x2 : Int32) (x3 : Int32) (x4 : Int32) (x5 : Int32) (u7 : zSt), I120 n x2 x3 x4 x5 u7 → wp_X7_most_120 (fun x1 x2 u7 => ∃ k : Nat, k < n ∧ I10 k x1 x2 u7) (fun x2 u7 => ∃ k : Nat, k < n ∧ I38 k x2 u7) (fun x2 x3 u7 => ∃ k : Nat, k < n ∧ I64 k x2 x3 u7) (fun x2 x3 x4 x5 u7 => ∃ k : Nat, k < n ∧ I86 k x2 x3 x4 x5 u7) (fun x2 x3 x4 x5 u7 => ∃ k : Nat, k < n ∧ I120 k x2 x3 x4 x5 u7) Q1 x2 x3 x4 x5 u7) : zMI l yX7_most wsX7_most ({ frames := 1, cells := 0, slots := 0, locals := 24 } : Room) D cI cZ cJ [.ref (a 7 99)] (k7 a cI cZ u7) (fun u : zSt => k7 a cI cZ u) Q1 := by
  refine z_ofI (by decide) rfl rfl (Nat.le_of_ble_eq_true rfl) (@fun p e s m args below meth c A Q ls C Y hl hret => ?_)
  have key : ∀ n : Nat, (∀ (x1 : Int32) (x2 : Int32) (u7 : zSt) (H : Heap) (locs : List Loc) (ls : Array Slot), I10 n x1 x2 u7 → zDy D A s.heap (k7 a cI cZ u7) H locs → lv_has ls 6 [(0, .ref (a 7 99)), (1, .int x1), (2, .int x2)] → W p l e ({ frames := 1, cells := 0, slots := 0, locals := 24 } : Room) s m args below meth c H locs 0 0 Q (F0 m 10 ls [])) ∧ (∀ (x2 : Int32) (u7 : zSt) (H : Heap) (locs : List Loc) (ls : Array Slot), I38 n x2 u7 → zDy D A s.heap (k7 a cI cZ u7) H locs → lv_has ls 6 [(0, .ref (a 7 99)), (2, .int x2)] → W p l e ({ frames := 1, cells := 0, slots := 0, locals := 24 } : Room) s m args below meth c H locs 0 0 Q (F0 m 38 ls [])) ∧ (∀ (x2 : Int32) (x3 : Int32) (u7 : zSt) (H : Heap) (locs : List Loc) (ls : Array Slot), I64 n x2 x3 u7 → zDy D A s.heap (k7 a cI cZ u7) H locs → lv_has ls 6 [(0, .ref (a 7 99)), (2, .int x2), (3, .int x3)] → W p l e ({ frames := 1, cells := 0, slots := 0, locals := 24 } : Room) s m args below meth c H locs 0 0 Q (F0 m 64 ls [])) ∧ (∀ (x2 : Int32) (x3 : Int32) (x4 : Int32) (x5 : Int32) (u7 : zSt) (H : Heap) (locs : List Loc) (ls : Array Slot), I86 n x2 x3 x4 x5 u7 → zDy D A s.heap (k7 a cI cZ u7) H locs → lv_has ls 6 [(0, .ref (a 7 99)), (2, .int x2), (3, .int x3), (4, .int x4), (5, .int x5)] → W p l e ({ frames := 1, cells := 0, slots := 0, locals := 24 } : Room) s m args below meth c H locs 0 0 Q (F0 m 86 ls [])) ∧ (∀ (x2 : Int32) (x3 : Int32) (x4 : Int32) (x5 : Int32) (u7 : zSt) (H : Heap) (locs : List Loc) (ls : Array Slot), I120 n x2 x3 x4 x5 u7 → zDy D A s.heap (k7 a cI cZ u7) H locs → lv_has ls 6 [(0, .ref (a 7 99)), (2, .int x2), (3, .int x3), (4, .int x4), (5, .int x5)] → W p l e ({ frames := 1, cells := 0, slots := 0, locals := 24 } : Room) s m args below meth c H locs 0 0 Q (F0 m 120 ls [])) := by
    intro n
    induction n using Nat.strongRecOn with
    | _ n ih =>
      exact ⟨fun x1 x2 u7 H locs ls hi Y hl => bk_X7_most_10 C Y hl hret (fun y0 y1 y2 H locs ls hi Y hl => by obtain ⟨k, hk, hi⟩ := hi; exact (ih k hk).1 y0 y1 y2 H locs ls hi Y hl) (fun y0 y1 H locs ls hi Y hl => by obtain ⟨k, hk, hi⟩ := hi; exact (ih k hk).2.1 y0 y1 H locs ls hi Y hl) (fun y0 y1 y2 H locs ls hi Y hl => by obtain ⟨k, hk, hi⟩ := hi; exact (ih k hk).2.2.1 y0 y1 y2 H locs ls hi Y hl) (fun y0 y1 y2 y3 y4 H locs ls hi Y hl => by obtain ⟨k, hk, hi⟩ := hi; exact (ih k hk).2.2.2.1 y0 y1 y2 y3 y4 H locs ls hi Y hl) (fun y0 y1 y2 y3 y4 H locs ls hi Y hl => by obtain ⟨k, hk, hi⟩ := hi; exact (ih k hk).2.2.2.2 y0 y1 y2 y3 y4 H locs ls hi Y hl) (hI10 n x1 x2 u7 hi), fun x2 u7 H locs ls hi Y hl => bk_X7_most_38 C Y hl hret (fun y0 y1 y2 H locs ls hi Y hl => by obtain ⟨k, hk, hi⟩ := hi; exact (ih k hk).1 y0 y1 y2 H locs ls hi Y hl) (fun y0 y1 H locs ls hi Y hl => by obtain ⟨k, hk, hi⟩ := hi; exact (ih k hk).2.1 y0 y1 H locs ls hi Y hl) (fun y0 y1 y2 H locs ls hi Y hl => by obtain ⟨k, hk, hi⟩ := hi; exact (ih k hk).2.2.1 y0 y1 y2 H locs ls hi Y hl) (fun y0 y1 y2 y3 y4 H locs ls hi Y hl => by obtain ⟨k, hk, hi⟩ := hi; exact (ih k hk).2.2.2.1 y0 y1 y2 y3 y4 H locs ls hi Y hl) (fun y0 y1 y2 y3 y4 H locs ls hi Y hl => by obtain ⟨k, hk, hi⟩ := hi; exact (ih k hk).2.2.2.2 y0 y1 y2 y3 y4 H locs ls hi Y hl) (hI38 n x2 u7 hi), fun x2 x3 u7 H locs ls hi Y hl => bk_X7_most_64 C Y hl hret (fun y0 y1 y2 H locs ls hi Y hl => by obtain ⟨k, hk, hi⟩ := hi; exact (ih k hk).1 y0 y1 y2 H locs ls hi Y hl) (fun y0 y1 H locs ls hi Y hl => by obtain ⟨k, hk, hi⟩ := hi; exact (ih k hk).2.1 y0 y1 H locs ls hi Y hl) (fun y0 y1 y2 H locs ls hi Y hl => by obtain ⟨k, hk, hi⟩ := hi; exact (ih k hk).2.2.1 y0 y1 y2 H locs ls hi Y hl) (fun y0 y1 y2 y3 y4 H locs ls hi Y hl => by obtain ⟨k, hk, hi⟩ := hi; exact (ih k hk).2.2.2.1 y0 y1 y2 y3 y4 H locs ls hi Y hl) (fun y0 y1 y2 y3 y4 H locs ls hi Y hl => by obtain ⟨k, hk, hi⟩ := hi; exact (ih k hk).2.2.2.2 y0 y1 y2 y3 y4 H locs ls hi Y hl) (hI64 n x2 x3 u7 hi), fun x2 x3 x4 x5 u7 H locs ls hi Y hl => bk_X7_most_86 C Y hl hret (fun y0 y1 y2 H locs ls hi Y hl => by obtain ⟨k, hk, hi⟩ := hi; exact (ih k hk).1 y0 y1 y2 H locs ls hi Y hl) (fun y0 y1 H locs ls hi Y hl => by obtain ⟨k, hk, hi⟩ := hi; exact (ih k hk).2.1 y0 y1 H locs ls hi Y hl) (fun y0 y1 y2 H locs ls hi Y hl => by obtain ⟨k, hk, hi⟩ := hi; exact (ih k hk).2.2.1 y0 y1 y2 H locs ls hi Y hl) (fun y0 y1 y2 y3 y4 H locs ls hi Y hl => by obtain ⟨k, hk, hi⟩ := hi; exact (ih k hk).2.2.2.1 y0 y1 y2 y3 y4 H locs ls hi Y hl) (fun y0 y1 y2 y3 y4 H locs ls hi Y hl => by obtain ⟨k, hk, hi⟩ := hi; exact (ih k hk).2.2.2.2 y0 y1 y2 y3 y4 H locs ls hi Y hl) (hI86 n x2 x3 x4 x5 u7 hi), fun x2 x3 x4 x5 u7 H locs ls hi Y hl => bk_X7_most_120 C Y hl hret (fun y0 y1 y2 H locs ls hi Y hl => by obtain ⟨k, hk, hi⟩ := hi; exact (ih k hk).1 y0 y1 y2 H locs ls hi Y hl) (fun y0 y1 H locs ls hi Y hl => by obtain ⟨k, hk, hi⟩ := hi; exact (ih k hk).2.1 y0 y1 H locs ls hi Y hl) (fun y0 y1 y2 H locs ls hi Y hl => by obtain ⟨k, hk, hi⟩ := hi; exact (ih k hk).2.2.1 y0 y1 y2 H locs ls hi Y hl) (fun y0 y1 y2 y3 y4 H locs ls hi Y hl => by obtain ⟨k, hk, hi⟩ := hi; exact (ih k hk).2.2.2.1 y0 y1 y2 y3 y4 H locs ls hi Y hl) (fun y0 y1 y2 y3 y4 H locs ls hi Y hl => by obtain ⟨k, hk, hi⟩ := hi; exact (ih k hk).2.2.2.2 y0 y1 y2 y3 y4 H locs ls hi Y hl) (hI120 n x2 x3 x4 x5 u7 hi)⟩
  exact bk_X7_most_0 C Y hl hret (fun y0 y1 y2 H locs ls hi Y hl => by obtain ⟨n, hi⟩ := hi; exact (key n).1 y0 y1 y2 H locs ls hi Y hl) (fun y0 y1 H locs ls hi Y hl => by obtain ⟨n, hi⟩ := hi; exact (key n).2.1 y0 y1 H locs ls hi Y hl) (fun y0 y1 y2 H locs ls hi Y hl => by obtain ⟨n, hi⟩ := hi; exact (key n).2.2.1 y0 y1 y2 H locs ls hi Y hl) (fun y0 y1 y2 y3 y4 H locs ls hi Y hl => by obtain ⟨n, hi⟩ := hi; exact (key n).2.2.2.1 y0 y1 y2 y3 y4 H locs ls hi Y hl) (fun y0 y1 y2 y3 y4 H locs ls hi Y hl => by obtain ⟨n, hi⟩ := hi; exact (key n).2.2.2.2 y0 y1 y2 y3 y4 H locs ls hi Y hl) hv
def TX7_most (Q1 : Int32 → zSt → Prop) (u7 : zSt) : Prop :=
  ∃ I10 : Nat → Int32 → Int32 → zSt → Prop, ∃ I38 : Nat → Int32 → zSt → Prop, ∃ I64 : Nat → Int32 → Int32 → zSt → Prop, ∃ I86 : Nat → Int32 → Int32 → Int32 → Int32 → zSt → Prop, ∃ I120 : Nat → Int32 → Int32 → Int32 → Int32 → zSt → Prop, (wp_X7_most_0 (fun x1 x2 u7 => ∃ n : Nat, I10 n x1 x2 u7) (fun x2 u7 => ∃ n : Nat, I38 n x2 u7) (fun x2 x3 u7 => ∃ n : Nat, I64 n x2 x3 u7) (fun x2 x3 x4 x5 u7 => ∃ n : Nat, I86 n x2 x3 x4 x5 u7) (fun x2 x3 x4 x5 u7 => ∃ n : Nat, I120 n x2 x3 x4 x5 u7) Q1  u7) ∧ (∀ (n : Nat) (x1 : Int32) (x2 : Int32) (u7 : zSt), I10 n x1 x2 u7 → wp_X7_most_10 (fun x1 x2 u7 => ∃ k : Nat, k < n ∧ I10 k x1 x2 u7) (fun x2 u7 => ∃ k : Nat, k < n ∧ I38 k x2 u7) (fun x2 x3 u7 => ∃ k : Nat, k < n ∧ I64 k x2 x3 u7) (fun x2 x3 x4 x5 u7 => ∃ k : Nat, k < n ∧ I86 k x2 x3 x4 x5 u7) (fun x2 x3 x4 x5 u7 => ∃ k : Nat, k < n ∧ I120 k x2 x3 x4 x5 u7) Q1 x1 x2 u7) ∧ (∀ (n : Nat) (x2 : Int32) (u7 : zSt), I38 n x2 u7 → wp_X7_most_38 (fun x1 x2 u7 => ∃ k : Nat, k < n ∧ I10 k x1 x2 u7) (fun x2 u7 => ∃ k : Nat, k < n ∧ I38 k x2 u7) (fun x2 x3 u7 => ∃ k : Nat, k < n ∧ I64 k x2 x3 u7) (fun x2 x3 x4 x5 u7 => ∃ k : Nat, k < n ∧ I86 k x2 x3 x4 x5 u7) (fun x2 x3 x4 x5 u7 => ∃ k : Nat, k < n ∧ I120 k x2 x3 x4 x5 u7) Q1 x2 u7) ∧ (∀ (n : Nat) (x2 : Int32) (x3 : Int32) (u7 : zSt), I64 n x2 x3 u7 → wp_X7_most_64 (fun x1 x2 u7 => ∃ k : Nat, k < n ∧ I10 k x1 x2 u7) (fun x2 u7 => ∃ k : Nat, k < n ∧ I38 k x2 u7) (fun x2 x3 u7 => ∃ k : Nat, k < n ∧ I64 k x2 x3 u7) (fun x2 x3 x4 x5 u7 => ∃ k : Nat, k < n ∧ I86 k x2 x3 x4 x5 u7) (fun x2 x3 x4 x5 u7 => ∃ k : Nat, k < n ∧ I120 k x2 x3 x4 x5 u7) Q1 x2 x3 u7) ∧ (∀ (n : Nat) (x2 : Int32) (x3 : Int32) (x4 : Int32) (x5 : Int32) (u7 : zSt), I86 n x2 x3 x4 x5 u7 → wp_X7_most_86 (fun x1 x2 u7 => ∃ k : Nat, k < n ∧ I10 k x1 x2 u7) (fun x2 u7 => ∃ k : Nat, k < n ∧ I38 k x2 u7) (fun x2 x3 u7 => ∃ k : Nat, k < n ∧ I64 k x2 x3 u7) (fun x2 x3 x4 x5 u7 => ∃ k : Nat, k < n ∧ I86 k x2 x3 x4 x5 u7) (fun x2 x3 x4 x5 u7 => ∃ k : Nat, k < n ∧ I120 k x2 x3 x4 x5 u7) Q1 x2 x3 x4 x5 u7) ∧ (∀ (n : Nat) (x2 : Int32) (x3 : Int32) (x4 : Int32) (x5 : Int32) (u7 : zSt), I120 n x2 x3 x4 x5 u7 → wp_X7_most_120 (fun x1 x2 u7 => ∃ k : Nat, k < n ∧ I10 k x1 x2 u7) (fun x2 u7 => ∃ k : Nat, k < n ∧ I38 k x2 u7) (fun x2 x3 u7 => ∃ k : Nat, k < n ∧ I64 k x2 x3 u7) (fun x2 x3 x4 x5 u7 => ∃ k : Nat, k < n ∧ I86 k x2 x3 x4 x5 u7) (fun x2 x3 x4 x5 u7 => ∃ k : Nat, k < n ∧ I120 k x2 x3 x4 x5 u7) Q1 x2 x3 x4 x5 u7)
set_option maxHeartbeats 4000000 in
set_option maxRecDepth 100000 in
theorem c_X7_most (l : Launch) {D : va_G} {cI cZ cJ : ClassId} {a : Nat → Nat → Nat} {Q1 : Int32 → zSt → Prop} {u7 : zSt} (hv : TX7_most Q1  u7) : zMI l yX7_most wsX7_most ({ frames := 1, cells := 0, slots := 0, locals := 24 } : Room) D cI cZ cJ [.ref (a 7 99)] (k7 a cI cZ u7) (fun u : zSt => k7 a cI cZ u) Q1 := by
  obtain ⟨I10, I38, I64, I86, I120, hv, hI10, hI38, hI64, hI86, hI120⟩ := hv
  exact k_X7_most l I10 I38 I64 I86 I120 hv hI10 hI38 hI64 hI86 hI120


section
variable {p : Program} {l : Launch} {e : Env} {s : State} {m : MethodId} {args : Array Value} {below : List Frame} {meth : Method} {c : Code} {H : Heap} {locs : List Loc} {Q : State → Prop} {D : va_G} {cI cZ cJ : ClassId} {A : Nat → Prop} {ls : Array Slot}
def wp_X7_noColour_0 (Q1 : Int32 → Unit → Prop) (p0 : Int32) : Prop :=
  TX7_in (fun (r_1 : Int32) (_ : Unit) => (r_1 = (0 : Int32) → Q1 1 ()) ∧ (¬ r_1 = (0 : Int32) → Q1 0 ())) p0 0 5 

set_option maxHeartbeats 4000000 in
set_option maxRecDepth 100000 in
theorem bk_X7_noColour_0 {Q1 : Int32 → Unit → Prop} {p0 : Int32} (C : zCx p s m args c cX7_noColour 1 RX7 wsX7_noColour D cI cZ cJ A) (Y : zDy D A s.heap ([] : va_W) H locs) (hl : lv_has ls 1 [(0, .int p0)]) (hret : ∀ {pc : Nat} {H : Heap} {locs : List Loc} {ls : Array Slot} {r : Int32} {u : Unit}, zDy D A s.heap ((fun _ : Unit => ([] : va_W)) u) H locs → (r = 0 ∨ r = 1) → Q1 r u → decode cX7_noColour pc = .ok (.ireturn, 1) → W p l e ({ frames := 1, cells := 0, slots := 0, locals := 22 } : Room) s m args below meth c H locs 0 0 Q (F0 m pc ls [.int r])) (hv : wp_X7_noColour_0 Q1 p0 ) : W p l e ({ frames := 1, cells := 0, slots := 0, locals := 22 } : Room) s m args below meth c H locs 0 0 Q (F0 m 0 ls []) := by
  unfold wp_X7_noColour_0 at hv
  obtain ⟨hx, hb, hml, hown, hts, hK, hA⟩ := id C
  refine lv_iload_n hx hb dX7_noColour_0 rfl (lv_at hl 0 rfl) ?_
  refine lv_iconst (v := 0) hx hb dX7_noColour_1 (by decide) ?_
  refine lv_iconst (v := 5) hx hb dX7_noColour_2 (by decide) ?_
  refine z_callSi C Y (c_X7_in l hv) (zFr.nil _) (va_cwS 3 hts gX7_noColour_X7_in rfl rfl rfl (by decide +kernel) ⟨(Nat.le_of_ble_eq_true rfl), (Nat.le_of_ble_eq_true rfl)⟩) rfl hl.1 rfl (Nat.le_of_ble_eq_true rfl) dX7_noColour_3 ⟨Nat.zero_le _, Nat.zero_le _⟩ (fun r_1 _ H locs Y hv => ?_)
  refine lv_if_ne (tgt := 13) hx hb dX7_noColour_6 (by decide) (fun hc => ?_) (fun hc => ?_)
  · have hv := hv.2 hc
    refine lv_iconst (v := 0) hx hb dX7_noColour_13 (by decide) ?_
    exact hret Y (Or.inl rfl) hv dX7_noColour_14
  · have hv := hv.1 hc
    refine lv_iconst (v := 1) hx hb dX7_noColour_9 (by decide) ?_
    refine lv_goto (tgt := 14) hx hb dX7_noColour_10 (by decide) ?_
    exact hret Y (Or.inr rfl) hv dX7_noColour_14

end
abbrev TX7_noColour := wp_X7_noColour_0
set_option maxHeartbeats 4000000 in
set_option maxRecDepth 100000 in
theorem c_X7_noColour (l : Launch) {D : va_G} {cI cZ cJ : ClassId} {Q1 : Int32 → Unit → Prop} {p0 : Int32} (hv : wp_X7_noColour_0 Q1 p0 ) : zMI l yX7_noColour wsX7_noColour ({ frames := 1, cells := 0, slots := 0, locals := 22 } : Room) D cI cZ cJ [.int p0] ([] : va_W) (fun _ : Unit => ([] : va_W)) Q1 :=
  z_ofZ (by decide) rfl rfl (Nat.le_of_ble_eq_true rfl) (fun C Y hl hret => bk_X7_noColour_0 C Y hl hret hv)


theorem in_X7_change_7 : ∀ w ∈ wsX70, w ∈ wsX7_change := by first | exact fun w h => List.mem_cons_of_mem _ (List.mem_append_right _ h) | exact fun w h => List.mem_cons_of_mem _ (List.mem_append_left _ (List.mem_append_right _ h)) | decide +kernel
theorem fl_X7_change_80 : Cond.fieldLink RX7 80 (TX7 37).1 (TX7 37).2.1 (TX7 37).2.2.1 ∈ wsX7_change := by decide +kernel
theorem fl_X7_change_93 : Cond.fieldLink RX7 93 (TX7 0).1 (TX7 0).2.1 (TX7 0).2.2.1 ∈ wsX7_change := by decide +kernel
section
variable {p : Program} {l : Launch} {e : Env} {s : State} {m : MethodId} {args : Array Value} {below : List Frame} {meth : Method} {c : Code} {H : Heap} {locs : List Loc} {Q : State → Prop} {D : va_G} {cI cZ cJ : ClassId} {A : Nat → Prop} {ls : Array Slot}
def wp_X7_change_54 (Q1 : zSt → Prop) (x1 : Int32) (x2 : Int32) (x3 : Int32) (t0 : Int32) (u7 : zSt) : Prop :=
  TX7_throwsIf (fun (r_2 : Int32) (u7_1 : zSt) => (r_2 = (0 : Int32) → vp_in ((6 * x1) + x2) 36 ∧ (∀ u7_3 : zSt, u7_3 = zA u7_1 37 (upd (u7_1.2 37) ((6 * x1) + x2).toNatClampNeg x3) → Q1 u7_3)) ∧ (¬ r_2 = (0 : Int32) → Q1 u7_1)) t0 2 u7

set_option maxHeartbeats 4000000 in
set_option maxRecDepth 100000 in
theorem bk_X7_change_54 {a : Nat → Nat → Nat} {Q1 : zSt → Prop} {x1 : Int32} {x2 : Int32} {x3 : Int32} {t0 : Int32} {u7 : zSt} (C : zCx p s m args c cX7_change 4 RX7 wsX7_change D cI cZ cJ A) (Y : zDy D A s.heap (k7 a cI cZ u7) H locs) (hl : lv_has ls 4 [(0, .ref (a 7 99)), (1, .int x1), (2, .int x2), (3, .int x3)]) (hret : ∀ {pc : Nat} {H : Heap} {locs : List Loc} {ls : Array Slot} {u : zSt}, zDy D A s.heap ((fun u : zSt => k7 a cI cZ u) u) H locs → Q1 u → decode cX7_change pc = .ok (.return_, 1) → W p l e ({ frames := 2, cells := 0, slots := 0, locals := 42 } : Room) s m args below meth c H locs 0 0 Q (F0 m pc ls [])) (hv : wp_X7_change_54 Q1 x1 x2 x3 t0 u7) : W p l e ({ frames := 2, cells := 0, slots := 0, locals := 42 } : Room) s m args below meth c H locs 0 0 Q (F0 m 54 ls [.int t0, .ref (a 7 99)]) := by
  unfold wp_X7_change_54 at hv
  obtain ⟨hx, hb, hml, hown, hts, hK, hA⟩ := id C
  refine lv_iconst (v := 2) hx hb dX7_change_54 (by decide) ?_
  refine z_callVi C Y (c_X7_throwsIf l hv) (zFr.self _ _) (cwV 2 hts gX7_change_X7_throwsIf rfl rfl rfl (by decide +kernel) ⟨(Nat.le_of_ble_eq_true rfl), (Nat.le_of_ble_eq_true rfl)⟩) (ge7_7 ..) rfl rfl rfl hl.1 rfl (Nat.le_of_ble_eq_true rfl) dX7_change_55 ⟨Nat.zero_le _, Nat.zero_le _⟩ (fun r_2 u7_1 H locs Y hv => ?_)
  refine lv_if_eq (tgt := 62) hx hb dX7_change_58 (by decide) (fun hc => ?_) (fun hc => ?_)
  · have hv := hv.1 hc
    refine lv_aload_n hx hb dX7_change_62 rfl (lv_at hl 0 rfl) ?_
    refine z_get C Y (Cn := RX7) (T := TX7) (N := 42) in_X7_change_7 rfl (ge7_7 ..) 37 (by decide) fl_X7_change_80 rfl dX7_change_63 ?_
    refine lv_bipush (v := 6) hx hb dX7_change_66 (by decide) ?_
    refine lv_iload_n hx hb dX7_change_68 rfl (lv_at hl 1 rfl) ?_
    refine lv_imul hx hb dX7_change_69 ?_
    refine lv_iload_n hx hb dX7_change_70 rfl (lv_at hl 2 rfl) ?_
    refine lv_iadd hx hb dX7_change_71 ?_
    refine lv_iload_n hx hb dX7_change_72 rfl (lv_at hl 3 rfl) ?_
    obtain ⟨hi, hv⟩ := hv
    refine z_stI C Y (pa7_7_37 ..) (sa7_7_37 ..) hi dX7_change_73 (fun H locs Y => ?_)
    obtain ⟨u7_3, eu7_3, Y, hv⟩ := z_nm (kf := fun z => (k7 a cI cZ z)) Y hv
    exact hret Y hv dX7_change_74
  · have hv := hv.2 hc
    exact hret Y hv dX7_change_61

def wp_X7_change_49 (Q1 : zSt → Prop) (x1 : Int32) (x2 : Int32) (x3 : Int32) (u7 : zSt) : Prop :=
  wp_X7_change_54 Q1 x1 x2 x3 1 u7

set_option maxHeartbeats 4000000 in
set_option maxRecDepth 100000 in
theorem bk_X7_change_49 {a : Nat → Nat → Nat} {Q1 : zSt → Prop} {x1 : Int32} {x2 : Int32} {x3 : Int32} {u7 : zSt} (C : zCx p s m args c cX7_change 4 RX7 wsX7_change D cI cZ cJ A) (Y : zDy D A s.heap (k7 a cI cZ u7) H locs) (hl : lv_has ls 4 [(0, .ref (a 7 99)), (1, .int x1), (2, .int x2), (3, .int x3)]) (hret : ∀ {pc : Nat} {H : Heap} {locs : List Loc} {ls : Array Slot} {u : zSt}, zDy D A s.heap ((fun u : zSt => k7 a cI cZ u) u) H locs → Q1 u → decode cX7_change pc = .ok (.return_, 1) → W p l e ({ frames := 2, cells := 0, slots := 0, locals := 42 } : Room) s m args below meth c H locs 0 0 Q (F0 m pc ls [])) (hv : wp_X7_change_49 Q1 x1 x2 x3 u7) : W p l e ({ frames := 2, cells := 0, slots := 0, locals := 42 } : Room) s m args below meth c H locs 0 0 Q (F0 m 49 ls [.ref (a 7 99)]) := by
  unfold wp_X7_change_49 at hv
  obtain ⟨hx, hb, hml, hown, hts, hK, hA⟩ := id C
  refine lv_iconst (v := 1) hx hb dX7_change_49 (by decide) ?_
  refine lv_goto (tgt := 54) hx hb dX7_change_50 (by decide) ?_
  exact bk_X7_change_54 C Y (lv_sub hl [0, 1, 2, 3] rfl) hret hv

def wp_X7_change_25 (Q1 : zSt → Prop) (x1 : Int32) (x2 : Int32) (x3 : Int32) (t0 : Int32) (u7 : zSt) : Prop :=
  TX7_throwsIf (fun (r_2 : Int32) (u7_1 : zSt) => (r_2 = (0 : Int32) → TX7_in (fun (r_3 : Int32) (_ : Unit) => (r_3 = (0 : Int32) → wp_X7_change_49 Q1 x1 x2 x3 u7_1) ∧ (¬ r_3 = (0 : Int32) → (x1 = x2 → wp_X7_change_49 Q1 x1 x2 x3 u7_1) ∧ (¬ x1 = x2 → wp_X7_change_54 Q1 x1 x2 x3 0 u7_1))) x3 0 1000 ) ∧ (¬ r_2 = (0 : Int32) → Q1 u7_1)) t0 1 u7

set_option maxHeartbeats 4000000 in
set_option maxRecDepth 100000 in
theorem bk_X7_change_25 {a : Nat → Nat → Nat} {Q1 : zSt → Prop} {x1 : Int32} {x2 : Int32} {x3 : Int32} {t0 : Int32} {u7 : zSt} (C : zCx p s m args c cX7_change 4 RX7 wsX7_change D cI cZ cJ A) (Y : zDy D A s.heap (k7 a cI cZ u7) H locs) (hl : lv_has ls 4 [(0, .ref (a 7 99)), (1, .int x1), (2, .int x2), (3, .int x3)]) (hret : ∀ {pc : Nat} {H : Heap} {locs : List Loc} {ls : Array Slot} {u : zSt}, zDy D A s.heap ((fun u : zSt => k7 a cI cZ u) u) H locs → Q1 u → decode cX7_change pc = .ok (.return_, 1) → W p l e ({ frames := 2, cells := 0, slots := 0, locals := 42 } : Room) s m args below meth c H locs 0 0 Q (F0 m pc ls [])) (hv : wp_X7_change_25 Q1 x1 x2 x3 t0 u7) : W p l e ({ frames := 2, cells := 0, slots := 0, locals := 42 } : Room) s m args below meth c H locs 0 0 Q (F0 m 25 ls [.int t0, .ref (a 7 99)]) := by
  unfold wp_X7_change_25 at hv
  obtain ⟨hx, hb, hml, hown, hts, hK, hA⟩ := id C
  refine lv_iconst (v := 1) hx hb dX7_change_25 (by decide) ?_
  refine z_callVi C Y (c_X7_throwsIf l hv) (zFr.self _ _) (cwV 2 hts gX7_change_X7_throwsIf rfl rfl rfl (by decide +kernel) ⟨(Nat.le_of_ble_eq_true rfl), (Nat.le_of_ble_eq_true rfl)⟩) (ge7_7 ..) rfl rfl rfl hl.1 rfl (Nat.le_of_ble_eq_true rfl) dX7_change_26 ⟨Nat.zero_le _, Nat.zero_le _⟩ (fun r_2 u7_1 H locs Y hv => ?_)
  refine lv_if_ne (tgt := 61) hx hb dX7_change_29 (by decide) (fun hc => ?_) (fun hc => ?_)
  · have hv := hv.2 hc
    exact hret Y hv dX7_change_61
  · have hv := hv.1 hc
    refine lv_aload_n hx hb dX7_change_32 rfl (lv_at hl 0 rfl) ?_
    refine lv_iload_n hx hb dX7_change_33 rfl (lv_at hl 3 rfl) ?_
    refine lv_iconst (v := 0) hx hb dX7_change_34 (by decide) ?_
    refine lv_sipush (v := 1000) hx hb dX7_change_35 (by decide) ?_
    refine z_callSi C Y (c_X7_in l hv) (zFr.nil _) (va_cwS 3 hts gX7_change_X7_in rfl rfl rfl (by decide +kernel) ⟨(Nat.le_of_ble_eq_true rfl), (Nat.le_of_ble_eq_true rfl)⟩) rfl hl.1 rfl (Nat.le_of_ble_eq_true rfl) dX7_change_38 ⟨Nat.zero_le _, Nat.zero_le _⟩ (fun r_3 _ H locs Y hv => ?_)
    refine lv_if_eq (tgt := 49) hx hb dX7_change_41 (by decide) (fun hc => ?_) (fun hc => ?_)
    · have hv := hv.1 hc
      exact bk_X7_change_49 C Y (lv_sub hl [0, 1, 2, 3] rfl) hret hv
    · have hv := hv.2 hc
      refine lv_iload_n hx hb dX7_change_44 rfl (lv_at hl 1 rfl) ?_
      refine lv_iload_n hx hb dX7_change_45 rfl (lv_at hl 2 rfl) ?_
      refine lv_icmp_ne (tgt := 53) hx hb dX7_change_46 (by decide) (fun hc => ?_) (fun hc => ?_)
      · have hv := hv.2 hc
        refine lv_iconst (v := 0) hx hb dX7_change_53 (by decide) ?_
        exact bk_X7_change_54 C Y (lv_sub hl [0, 1, 2, 3] rfl) hret hv
      · have hv := hv.1 hc
        exact bk_X7_change_49 C Y (lv_sub hl [0, 1, 2, 3] rfl) hret hv

def wp_X7_change_20 (Q1 : zSt → Prop) (x1 : Int32) (x2 : Int32) (x3 : Int32) (u7 : zSt) : Prop :=
  wp_X7_change_25 Q1 x1 x2 x3 1 u7

set_option maxHeartbeats 4000000 in
set_option maxRecDepth 100000 in
theorem bk_X7_change_20 {a : Nat → Nat → Nat} {Q1 : zSt → Prop} {x1 : Int32} {x2 : Int32} {x3 : Int32} {u7 : zSt} (C : zCx p s m args c cX7_change 4 RX7 wsX7_change D cI cZ cJ A) (Y : zDy D A s.heap (k7 a cI cZ u7) H locs) (hl : lv_has ls 4 [(0, .ref (a 7 99)), (1, .int x1), (2, .int x2), (3, .int x3)]) (hret : ∀ {pc : Nat} {H : Heap} {locs : List Loc} {ls : Array Slot} {u : zSt}, zDy D A s.heap ((fun u : zSt => k7 a cI cZ u) u) H locs → Q1 u → decode cX7_change pc = .ok (.return_, 1) → W p l e ({ frames := 2, cells := 0, slots := 0, locals := 42 } : Room) s m args below meth c H locs 0 0 Q (F0 m pc ls [])) (hv : wp_X7_change_20 Q1 x1 x2 x3 u7) : W p l e ({ frames := 2, cells := 0, slots := 0, locals := 42 } : Room) s m args below meth c H locs 0 0 Q (F0 m 20 ls [.ref (a 7 99)]) := by
  unfold wp_X7_change_20 at hv
  obtain ⟨hx, hb, hml, hown, hts, hK, hA⟩ := id C
  refine lv_iconst (v := 1) hx hb dX7_change_20 (by decide) ?_
  refine lv_goto (tgt := 25) hx hb dX7_change_21 (by decide) ?_
  exact bk_X7_change_25 C Y (lv_sub hl [0, 1, 2, 3] rfl) hret hv

def wp_X7_change_0 (Q1 : zSt → Prop) (p1 : Int32) (p2 : Int32) (p3 : Int32) (u7 : zSt) : Prop :=
  ∀ u7_1 : zSt, u7_1 = zI u7 0 0 → TX7_noColour (fun (r_2 : Int32) (_ : Unit) => (r_2 = (0 : Int32) → TX7_noColour (fun (r_3 : Int32) (_ : Unit) => (r_3 = (0 : Int32) → wp_X7_change_25 Q1 p1 p2 p3 0 u7_1) ∧ (¬ r_3 = (0 : Int32) → wp_X7_change_20 Q1 p1 p2 p3 u7_1)) p2 ) ∧ (¬ r_2 = (0 : Int32) → wp_X7_change_20 Q1 p1 p2 p3 u7_1)) p1 

set_option maxHeartbeats 4000000 in
set_option maxRecDepth 100000 in
theorem bk_X7_change_0 {a : Nat → Nat → Nat} {Q1 : zSt → Prop} {p1 : Int32} {p2 : Int32} {p3 : Int32} {u7 : zSt} (C : zCx p s m args c cX7_change 4 RX7 wsX7_change D cI cZ cJ A) (Y : zDy D A s.heap (k7 a cI cZ u7) H locs) (hl : lv_has ls 4 [(0, .ref (a 7 99)), (1, .int p1), (2, .int p2), (3, .int p3)]) (hret : ∀ {pc : Nat} {H : Heap} {locs : List Loc} {ls : Array Slot} {u : zSt}, zDy D A s.heap ((fun u : zSt => k7 a cI cZ u) u) H locs → Q1 u → decode cX7_change pc = .ok (.return_, 1) → W p l e ({ frames := 2, cells := 0, slots := 0, locals := 42 } : Room) s m args below meth c H locs 0 0 Q (F0 m pc ls [])) (hv : wp_X7_change_0 Q1 p1 p2 p3 u7) : W p l e ({ frames := 2, cells := 0, slots := 0, locals := 42 } : Room) s m args below meth c H locs 0 0 Q (F0 m 0 ls []) := by
  unfold wp_X7_change_0 at hv
  obtain ⟨hx, hb, hml, hown, hts, hK, hA⟩ := id C
  refine lv_aload_n hx hb dX7_change_0 rfl (lv_at hl 0 rfl) ?_
  refine lv_iconst (v := 0) hx hb dX7_change_1 (by decide) ?_
  refine z_putI C Y (Cn := RX7) (T := TX7) (N := 42) in_X7_change_7 rfl tyX7 tyX7_ok nmX7 (ge7_7 ..) 0 (by decide) fl_X7_change_93 rfl (by decide +kernel) (Nat.le_of_ble_eq_true rfl) (si7_7_0 ..) dX7_change_2 (fun H locs Y => ?_)
  obtain ⟨u7_1, eu7_1, Y, hv⟩ := z_nm (kf := fun z => (k7 a cI cZ z)) Y hv
  refine lv_aload_n hx hb dX7_change_5 rfl (lv_at hl 0 rfl) ?_
  refine lv_iload_n hx hb dX7_change_6 rfl (lv_at hl 1 rfl) ?_
  refine z_callSi C Y (c_X7_noColour l hv) (zFr.nil _) (va_cwS 1 hts gX7_change_X7_noColour rfl rfl rfl (by decide +kernel) ⟨(Nat.le_of_ble_eq_true rfl), (Nat.le_of_ble_eq_true rfl)⟩) rfl hl.1 rfl (Nat.le_of_ble_eq_true rfl) dX7_change_7 ⟨Nat.zero_le _, Nat.zero_le _⟩ (fun r_2 _ H locs Y hv => ?_)
  refine lv_if_ne (tgt := 20) hx hb dX7_change_10 (by decide) (fun hc => ?_) (fun hc => ?_)
  · have hv := hv.2 hc
    exact bk_X7_change_20 C Y (lv_sub hl [0, 1, 2, 3] rfl) hret hv
  · have hv := hv.1 hc
    refine lv_iload_n hx hb dX7_change_13 rfl (lv_at hl 2 rfl) ?_
    refine z_callSi C Y (c_X7_noColour l hv) (zFr.nil _) (va_cwS 1 hts gX7_change_X7_noColour rfl rfl rfl (by decide +kernel) ⟨(Nat.le_of_ble_eq_true rfl), (Nat.le_of_ble_eq_true rfl)⟩) rfl hl.1 rfl (Nat.le_of_ble_eq_true rfl) dX7_change_14 ⟨Nat.zero_le _, Nat.zero_le _⟩ (fun r_3 _ H locs Y hv => ?_)
    refine lv_if_eq (tgt := 24) hx hb dX7_change_17 (by decide) (fun hc => ?_) (fun hc => ?_)
    · have hv := hv.1 hc
      refine lv_iconst (v := 0) hx hb dX7_change_24 (by decide) ?_
      exact bk_X7_change_25 C Y (lv_sub hl [0, 1, 2, 3] rfl) hret hv
    · have hv := hv.2 hc
      exact bk_X7_change_20 C Y (lv_sub hl [0, 1, 2, 3] rfl) hret hv

end
abbrev TX7_change := wp_X7_change_0
set_option maxHeartbeats 4000000 in
set_option maxRecDepth 100000 in
theorem c_X7_change (l : Launch) {D : va_G} {cI cZ cJ : ClassId} {a : Nat → Nat → Nat} {Q1 : zSt → Prop} {p1 : Int32} {p2 : Int32} {p3 : Int32} {u7 : zSt} (hv : wp_X7_change_0 Q1 p1 p2 p3 u7) : zMV l yX7_change wsX7_change ({ frames := 2, cells := 0, slots := 0, locals := 42 } : Room) D cI cZ cJ [.ref (a 7 99), .int p1, .int p2, .int p3] (k7 a cI cZ u7) (fun u : zSt => k7 a cI cZ u) Q1 :=
  z_ofV (by decide) rfl rfl (Nat.le_of_ble_eq_true rfl) (fun C Y hl hret => bk_X7_change_0 C Y hl hret hv)


theorem in_X7_job_7 : ∀ w ∈ wsX70, w ∈ wsX7_job := by first | exact fun w h => List.mem_cons_of_mem _ (List.mem_append_right _ h) | exact fun w h => List.mem_cons_of_mem _ (List.mem_append_left _ (List.mem_append_right _ h)) | decide +kernel
theorem fl_X7_job_83 : Cond.fieldLink RX7 83 (TX7 38).1 (TX7 38).2.1 (TX7 38).2.2.1 ∈ wsX7_job := by decide +kernel
theorem fl_X7_job_93 : Cond.fieldLink RX7 93 (TX7 0).1 (TX7 0).2.1 (TX7 0).2.2.1 ∈ wsX7_job := by decide +kernel
theorem fl_X7_job_199 : Cond.fieldLink RX7 199 (TX7 39).1 (TX7 39).2.1 (TX7 39).2.2.1 ∈ wsX7_job := by decide +kernel
section
variable {p : Program} {l : Launch} {e : Env} {s : State} {m : MethodId} {args : Array Value} {below : List Frame} {meth : Method} {c : Code} {H : Heap} {locs : List Loc} {Q : State → Prop} {D : va_G} {cI cZ cJ : ClassId} {A : Nat → Prop} {ls : Array Slot}
def wp_X7_job_0 (Q1 : Int32 → zSt → Prop) (p1 : Int32) (u7 : zSt) : Prop :=
  ∀ u7_1 : zSt, u7_1 = zI u7 0 0 → TX7_noColour (fun (r_2 : Int32) (_ : Unit) => TX7_throwsIf (fun (r_4 : Int32) (u7_3 : zSt) => (r_4 = (0 : Int32) → ((u7_3.1 39) = (10 : Int32) → Q1 (-1) u7_3) ∧ (¬ (u7_3.1 39) = (10 : Int32) → vp_in (u7_3.1 39) 10 ∧ (∀ u7_5 : zSt, u7_5 = zA u7_3 38 (upd (u7_3.2 38) (u7_3.1 39).toNatClampNeg p1) → ∀ u7_6 : zSt, u7_6 = zI u7_5 39 ((u7_5.1 39) + 1) → Q1 (u7_6.1 39) u7_6))) ∧ (¬ r_4 = (0 : Int32) → Q1 0 u7_3)) r_2 1 u7_1) p1 

set_option maxHeartbeats 4000000 in
set_option maxRecDepth 100000 in
theorem bk_X7_job_0 {a : Nat → Nat → Nat} {Q1 : Int32 → zSt → Prop} {p1 : Int32} {u7 : zSt} (C : zCx p s m args c cX7_job 2 RX7 wsX7_job D cI cZ cJ A) (Y : zDy D A s.heap (k7 a cI cZ u7) H locs) (hl : lv_has ls 2 [(0, .ref (a 7 99)), (1, .int p1)]) (hret : ∀ {pc : Nat} {H : Heap} {locs : List Loc} {ls : Array Slot} {r : Int32} {u : zSt}, zDy D A s.heap ((fun u : zSt => k7 a cI cZ u) u) H locs → Q1 r u → decode cX7_job pc = .ok (.ireturn, 1) → W p l e ({ frames := 2, cells := 0, slots := 0, locals := 42 } : Room) s m args below meth c H locs 0 0 Q (F0 m pc ls [.int r])) (hv : wp_X7_job_0 Q1 p1 u7) : W p l e ({ frames := 2, cells := 0, slots := 0, locals := 42 } : Room) s m args below meth c H locs 0 0 Q (F0 m 0 ls []) := by
  unfold wp_X7_job_0 at hv
  obtain ⟨hx, hb, hml, hown, hts, hK, hA⟩ := id C
  refine lv_aload_n hx hb dX7_job_0 rfl (lv_at hl 0 rfl) ?_
  refine lv_iconst (v := 0) hx hb dX7_job_1 (by decide) ?_
  refine z_putI C Y (Cn := RX7) (T := TX7) (N := 42) in_X7_job_7 rfl tyX7 tyX7_ok nmX7 (ge7_7 ..) 0 (by decide) fl_X7_job_93 rfl (by decide +kernel) (Nat.le_of_ble_eq_true rfl) (si7_7_0 ..) dX7_job_2 (fun H locs Y => ?_)
  obtain ⟨u7_1, eu7_1, Y, hv⟩ := z_nm (kf := fun z => (k7 a cI cZ z)) Y hv
  refine lv_aload_n hx hb dX7_job_5 rfl (lv_at hl 0 rfl) ?_
  refine lv_iload_n hx hb dX7_job_6 rfl (lv_at hl 1 rfl) ?_
  refine z_callSi C Y (c_X7_noColour l hv) (zFr.nil _) (va_cwS 1 hts gX7_job_X7_noColour rfl rfl rfl (by decide +kernel) ⟨(Nat.le_of_ble_eq_true rfl), (Nat.le_of_ble_eq_true rfl)⟩) rfl hl.1 rfl (Nat.le_of_ble_eq_true rfl) dX7_job_7 ⟨Nat.zero_le _, Nat.zero_le _⟩ (fun r_2 _ H locs Y hv => ?_)
  refine lv_iconst (v := 1) hx hb dX7_job_10 (by decide) ?_
  refine z_callVi C Y (c_X7_throwsIf l hv) (zFr.self _ _) (cwV 2 hts gX7_job_X7_throwsIf rfl rfl rfl (by decide +kernel) ⟨(Nat.le_of_ble_eq_true rfl), (Nat.le_of_ble_eq_true rfl)⟩) (ge7_7 ..) rfl rfl rfl hl.1 rfl (Nat.le_of_ble_eq_true rfl) dX7_job_11 ⟨Nat.zero_le _, Nat.zero_le _⟩ (fun r_4 u7_3 H locs Y hv => ?_)
  refine lv_if_eq (tgt := 19) hx hb dX7_job_14 (by decide) (fun hc => ?_) (fun hc => ?_)
  · have hv := hv.1 hc
    refine lv_aload_n hx hb dX7_job_19 rfl (lv_at hl 0 rfl) ?_
    refine z_get C Y (Cn := RX7) (T := TX7) (N := 42) in_X7_job_7 rfl (ge7_7 ..) 39 (by decide) fl_X7_job_199 rfl dX7_job_20 ?_
    refine lv_bipush (v := 10) hx hb dX7_job_23 (by decide) ?_
    refine lv_icmp_ne (tgt := 30) hx hb dX7_job_25 (by decide) (fun hc => ?_) (fun hc => ?_)
    · have hv := hv.2 hc
      refine lv_aload_n hx hb dX7_job_30 rfl (lv_at hl 0 rfl) ?_
      refine z_get C Y (Cn := RX7) (T := TX7) (N := 42) in_X7_job_7 rfl (ge7_7 ..) 38 (by decide) fl_X7_job_83 rfl dX7_job_31 ?_
      refine lv_aload_n hx hb dX7_job_34 rfl (lv_at hl 0 rfl) ?_
      refine z_get C Y (Cn := RX7) (T := TX7) (N := 42) in_X7_job_7 rfl (ge7_7 ..) 39 (by decide) fl_X7_job_199 rfl dX7_job_35 ?_
      refine lv_iload_n hx hb dX7_job_38 rfl (lv_at hl 1 rfl) ?_
      obtain ⟨hi, hv⟩ := hv
      refine z_stI C Y (pa7_7_38 ..) (sa7_7_38 ..) hi dX7_job_39 (fun H locs Y => ?_)
      obtain ⟨u7_5, eu7_5, Y, hv⟩ := z_nm (kf := fun z => (k7 a cI cZ z)) Y hv
      refine lv_aload_n hx hb dX7_job_40 rfl (lv_at hl 0 rfl) ?_
      refine lv_dup hx hb dX7_job_41 rfl ?_
      refine z_get C Y (Cn := RX7) (T := TX7) (N := 42) in_X7_job_7 rfl (ge7_7 ..) 39 (by decide) fl_X7_job_199 rfl dX7_job_42 ?_
      refine lv_iconst (v := 1) hx hb dX7_job_45 (by decide) ?_
      refine lv_iadd hx hb dX7_job_46 ?_
      refine z_putI C Y (Cn := RX7) (T := TX7) (N := 42) in_X7_job_7 rfl tyX7 tyX7_ok nmX7 (ge7_7 ..) 39 (by decide) fl_X7_job_199 rfl (by decide +kernel) (Nat.le_of_ble_eq_true rfl) (si7_7_39 ..) dX7_job_47 (fun H locs Y => ?_)
      obtain ⟨u7_6, eu7_6, Y, hv⟩ := z_nm (kf := fun z => (k7 a cI cZ z)) Y hv
      refine lv_aload_n hx hb dX7_job_50 rfl (lv_at hl 0 rfl) ?_
      refine z_get C Y (Cn := RX7) (T := TX7) (N := 42) in_X7_job_7 rfl (ge7_7 ..) 39 (by decide) fl_X7_job_199 rfl dX7_job_51 ?_
      exact hret Y hv dX7_job_54
    · have hv := hv.1 hc
      refine lv_iconst (v := (-1)) hx hb dX7_job_28 (by decide) ?_
      exact hret Y hv dX7_job_29
  · have hv := hv.2 hc
    refine lv_iconst (v := 0) hx hb dX7_job_17 (by decide) ?_
    exact hret Y hv dX7_job_18

end
abbrev TX7_job := wp_X7_job_0
set_option maxHeartbeats 4000000 in
set_option maxRecDepth 100000 in
theorem c_X7_job (l : Launch) {D : va_G} {cI cZ cJ : ClassId} {a : Nat → Nat → Nat} {Q1 : Int32 → zSt → Prop} {p1 : Int32} {u7 : zSt} (hv : wp_X7_job_0 Q1 p1 u7) : zMI l yX7_job wsX7_job ({ frames := 2, cells := 0, slots := 0, locals := 42 } : Room) D cI cZ cJ [.ref (a 7 99), .int p1] (k7 a cI cZ u7) (fun u : zSt => k7 a cI cZ u) Q1 :=
  z_ofI (by decide) rfl rfl (Nat.le_of_ble_eq_true rfl) (fun C Y hl hret => bk_X7_job_0 C Y hl hret hv)


theorem in_X7_on_7 : ∀ w ∈ wsX70, w ∈ wsX7_on := by first | exact fun w h => List.mem_cons_of_mem _ (List.mem_append_right _ h) | exact fun w h => List.mem_cons_of_mem _ (List.mem_append_left _ (List.mem_append_right _ h)) | decide +kernel
theorem fl_X7_on_86 : Cond.fieldLink RX7 86 (TX7 40).1 (TX7 40).2.1 (TX7 40).2.2.1 ∈ wsX7_on := by decide +kernel
theorem fl_X7_on_93 : Cond.fieldLink RX7 93 (TX7 0).1 (TX7 0).2.1 (TX7 0).2.2.1 ∈ wsX7_on := by decide +kernel
section
variable {p : Program} {l : Launch} {e : Env} {s : State} {m : MethodId} {args : Array Value} {below : List Frame} {meth : Method} {c : Code} {H : Heap} {locs : List Loc} {Q : State → Prop} {D : va_G} {cI cZ cJ : ClassId} {A : Nat → Prop} {ls : Array Slot}
def wp_X7_on_23 (Q1 : zSt → Prop) (x1 : Int32) (t0 : Int32) (u7 : zSt) : Prop :=
  TX7_throwsIf (fun (r_2 : Int32) (u7_1 : zSt) => (r_2 = (0 : Int32) → ∀ u7_3 : zSt, u7_3 = zI u7_1 40 x1 → Q1 u7_3) ∧ (¬ r_2 = (0 : Int32) → Q1 u7_1)) t0 1 u7

set_option maxHeartbeats 4000000 in
set_option maxRecDepth 100000 in
theorem bk_X7_on_23 {a : Nat → Nat → Nat} {Q1 : zSt → Prop} {x1 : Int32} {t0 : Int32} {u7 : zSt} (C : zCx p s m args c cX7_on 2 RX7 wsX7_on D cI cZ cJ A) (Y : zDy D A s.heap (k7 a cI cZ u7) H locs) (hl : lv_has ls 2 [(0, .ref (a 7 99)), (1, .int x1)]) (hret : ∀ {pc : Nat} {H : Heap} {locs : List Loc} {ls : Array Slot} {u : zSt}, zDy D A s.heap ((fun u : zSt => k7 a cI cZ u) u) H locs → Q1 u → decode cX7_on pc = .ok (.return_, 1) → W p l e ({ frames := 2, cells := 0, slots := 0, locals := 42 } : Room) s m args below meth c H locs 0 0 Q (F0 m pc ls [])) (hv : wp_X7_on_23 Q1 x1 t0 u7) : W p l e ({ frames := 2, cells := 0, slots := 0, locals := 42 } : Room) s m args below meth c H locs 0 0 Q (F0 m 23 ls [.int t0, .ref (a 7 99)]) := by
  unfold wp_X7_on_23 at hv
  obtain ⟨hx, hb, hml, hown, hts, hK, hA⟩ := id C
  refine lv_iconst (v := 1) hx hb dX7_on_23 (by decide) ?_
  refine z_callVi C Y (c_X7_throwsIf l hv) (zFr.self _ _) (cwV 2 hts gX7_on_X7_throwsIf rfl rfl rfl (by decide +kernel) ⟨(Nat.le_of_ble_eq_true rfl), (Nat.le_of_ble_eq_true rfl)⟩) (ge7_7 ..) rfl rfl rfl hl.1 rfl (Nat.le_of_ble_eq_true rfl) dX7_on_24 ⟨Nat.zero_le _, Nat.zero_le _⟩ (fun r_2 u7_1 H locs Y hv => ?_)
  refine lv_if_eq (tgt := 31) hx hb dX7_on_27 (by decide) (fun hc => ?_) (fun hc => ?_)
  · have hv := hv.1 hc
    refine lv_aload_n hx hb dX7_on_31 rfl (lv_at hl 0 rfl) ?_
    refine lv_iload_n hx hb dX7_on_32 rfl (lv_at hl 1 rfl) ?_
    refine z_putI C Y (Cn := RX7) (T := TX7) (N := 42) in_X7_on_7 rfl tyX7 tyX7_ok nmX7 (ge7_7 ..) 40 (by decide) fl_X7_on_86 rfl (by decide +kernel) (Nat.le_of_ble_eq_true rfl) (si7_7_40 ..) dX7_on_33 (fun H locs Y => ?_)
    obtain ⟨u7_3, eu7_3, Y, hv⟩ := z_nm (kf := fun z => (k7 a cI cZ z)) Y hv
    exact hret Y hv dX7_on_36
  · have hv := hv.2 hc
    exact hret Y hv dX7_on_30

def wp_X7_on_22 (Q1 : zSt → Prop) (x1 : Int32) (u7 : zSt) : Prop :=
  wp_X7_on_23 Q1 x1 0 u7

set_option maxHeartbeats 4000000 in
set_option maxRecDepth 100000 in
theorem bk_X7_on_22 {a : Nat → Nat → Nat} {Q1 : zSt → Prop} {x1 : Int32} {u7 : zSt} (C : zCx p s m args c cX7_on 2 RX7 wsX7_on D cI cZ cJ A) (Y : zDy D A s.heap (k7 a cI cZ u7) H locs) (hl : lv_has ls 2 [(0, .ref (a 7 99)), (1, .int x1)]) (hret : ∀ {pc : Nat} {H : Heap} {locs : List Loc} {ls : Array Slot} {u : zSt}, zDy D A s.heap ((fun u : zSt => k7 a cI cZ u) u) H locs → Q1 u → decode cX7_on pc = .ok (.return_, 1) → W p l e ({ frames := 2, cells := 0, slots := 0, locals := 42 } : Room) s m args below meth c H locs 0 0 Q (F0 m pc ls [])) (hv : wp_X7_on_22 Q1 x1 u7) : W p l e ({ frames := 2, cells := 0, slots := 0, locals := 42 } : Room) s m args below meth c H locs 0 0 Q (F0 m 22 ls [.ref (a 7 99)]) := by
  unfold wp_X7_on_22 at hv
  obtain ⟨hx, hb, hml, hown, hts, hK, hA⟩ := id C
  refine lv_iconst (v := 0) hx hb dX7_on_22 (by decide) ?_
  exact bk_X7_on_23 C Y (lv_sub hl [0, 1] rfl) hret hv

def wp_X7_on_0 (Q1 : zSt → Prop) (p1 : Int32) (u7 : zSt) : Prop :=
  ∀ u7_1 : zSt, u7_1 = zI u7 0 0 → (p1 = (-1 : Int32) → wp_X7_on_22 Q1 p1 u7_1) ∧ (¬ p1 = (-1 : Int32) → TX7_noColour (fun (r_2 : Int32) (_ : Unit) => (r_2 = (0 : Int32) → wp_X7_on_22 Q1 p1 u7_1) ∧ (¬ r_2 = (0 : Int32) → wp_X7_on_23 Q1 p1 1 u7_1)) p1 )

set_option maxHeartbeats 4000000 in
set_option maxRecDepth 100000 in
theorem bk_X7_on_0 {a : Nat → Nat → Nat} {Q1 : zSt → Prop} {p1 : Int32} {u7 : zSt} (C : zCx p s m args c cX7_on 2 RX7 wsX7_on D cI cZ cJ A) (Y : zDy D A s.heap (k7 a cI cZ u7) H locs) (hl : lv_has ls 2 [(0, .ref (a 7 99)), (1, .int p1)]) (hret : ∀ {pc : Nat} {H : Heap} {locs : List Loc} {ls : Array Slot} {u : zSt}, zDy D A s.heap ((fun u : zSt => k7 a cI cZ u) u) H locs → Q1 u → decode cX7_on pc = .ok (.return_, 1) → W p l e ({ frames := 2, cells := 0, slots := 0, locals := 42 } : Room) s m args below meth c H locs 0 0 Q (F0 m pc ls [])) (hv : wp_X7_on_0 Q1 p1 u7) : W p l e ({ frames := 2, cells := 0, slots := 0, locals := 42 } : Room) s m args below meth c H locs 0 0 Q (F0 m 0 ls []) := by
  unfold wp_X7_on_0 at hv
  obtain ⟨hx, hb, hml, hown, hts, hK, hA⟩ := id C
  refine lv_aload_n hx hb dX7_on_0 rfl (lv_at hl 0 rfl) ?_
  refine lv_iconst (v := 0) hx hb dX7_on_1 (by decide) ?_
  refine z_putI C Y (Cn := RX7) (T := TX7) (N := 42) in_X7_on_7 rfl tyX7 tyX7_ok nmX7 (ge7_7 ..) 0 (by decide) fl_X7_on_93 rfl (by decide +kernel) (Nat.le_of_ble_eq_true rfl) (si7_7_0 ..) dX7_on_2 (fun H locs Y => ?_)
  obtain ⟨u7_1, eu7_1, Y, hv⟩ := z_nm (kf := fun z => (k7 a cI cZ z)) Y hv
  refine lv_aload_n hx hb dX7_on_5 rfl (lv_at hl 0 rfl) ?_
  refine lv_iload_n hx hb dX7_on_6 rfl (lv_at hl 1 rfl) ?_
  refine lv_iconst (v := (-1)) hx hb dX7_on_7 (by decide) ?_
  refine lv_icmp_eq (tgt := 22) hx hb dX7_on_8 (by decide) (fun hc => ?_) (fun hc => ?_)
  · have hv := hv.1 hc
    exact bk_X7_on_22 C Y (lv_sub hl [0, 1] rfl) hret hv
  · have hv := hv.2 hc
    refine lv_iload_n hx hb dX7_on_11 rfl (lv_at hl 1 rfl) ?_
    refine z_callSi C Y (c_X7_noColour l hv) (zFr.nil _) (va_cwS 1 hts gX7_on_X7_noColour rfl rfl rfl (by decide +kernel) ⟨(Nat.le_of_ble_eq_true rfl), (Nat.le_of_ble_eq_true rfl)⟩) rfl hl.1 rfl (Nat.le_of_ble_eq_true rfl) dX7_on_12 ⟨Nat.zero_le _, Nat.zero_le _⟩ (fun r_2 _ H locs Y hv => ?_)
    refine lv_if_eq (tgt := 22) hx hb dX7_on_15 (by decide) (fun hc => ?_) (fun hc => ?_)
    · have hv := hv.1 hc
      exact bk_X7_on_22 C Y (lv_sub hl [0, 1] rfl) hret hv
    · have hv := hv.2 hc
      refine lv_iconst (v := 1) hx hb dX7_on_18 (by decide) ?_
      refine lv_goto (tgt := 23) hx hb dX7_on_19 (by decide) ?_
      exact bk_X7_on_23 C Y (lv_sub hl [0, 1] rfl) hret hv

end
abbrev TX7_on := wp_X7_on_0
set_option maxHeartbeats 4000000 in
set_option maxRecDepth 100000 in
theorem c_X7_on (l : Launch) {D : va_G} {cI cZ cJ : ClassId} {a : Nat → Nat → Nat} {Q1 : zSt → Prop} {p1 : Int32} {u7 : zSt} (hv : wp_X7_on_0 Q1 p1 u7) : zMV l yX7_on wsX7_on ({ frames := 2, cells := 0, slots := 0, locals := 42 } : Room) D cI cZ cJ [.ref (a 7 99), .int p1] (k7 a cI cZ u7) (fun u : zSt => k7 a cI cZ u) Q1 :=
  z_ofV (by decide) rfl rfl (Nat.le_of_ble_eq_true rfl) (fun C Y hl hret => bk_X7_on_0 C Y hl hret hv)


theorem in_X7_costs_7 : ∀ w ∈ wsX70, w ∈ wsX7_costs := by first | exact fun w h => List.mem_cons_of_mem _ (List.mem_append_right _ h) | exact fun w h => List.mem_cons_of_mem _ (List.mem_append_left _ (List.mem_append_right _ h)) | decide +kernel
theorem fl_X7_costs_80 : Cond.fieldLink RX7 80 (TX7 37).1 (TX7 37).2.1 (TX7 37).2.2.1 ∈ wsX7_costs := by decide +kernel
section
variable {p : Program} {l : Launch} {e : Env} {s : State} {m : MethodId} {args : Array Value} {below : List Frame} {meth : Method} {c : Code} {H : Heap} {locs : List Loc} {Q : State → Prop} {D : va_G} {cI cZ cJ : ClassId} {A : Nat → Prop} {ls : Array Slot}
def wp_X7_costs_0 (Q1 : Int32 → zSt → Prop) (p1 : Int32) (p2 : Int32) (u7 : zSt) : Prop :=
  (p1 = (6 : Int32) → Q1 0 u7) ∧ (¬ p1 = (6 : Int32) → vp_in ((6 * p1) + p2) 36 ∧ (Q1 (u7.2 37 ((6 * p1) + p2).toNatClampNeg) u7))

set_option maxHeartbeats 4000000 in
set_option maxRecDepth 100000 in
theorem bk_X7_costs_0 {a : Nat → Nat → Nat} {Q1 : Int32 → zSt → Prop} {p1 : Int32} {p2 : Int32} {u7 : zSt} (C : zCx p s m args c cX7_costs 3 RX7 wsX7_costs D cI cZ cJ A) (Y : zDy D A s.heap (k7 a cI cZ u7) H locs) (hl : lv_has ls 3 [(0, .ref (a 7 99)), (1, .int p1), (2, .int p2)]) (hret : ∀ {pc : Nat} {H : Heap} {locs : List Loc} {ls : Array Slot} {r : Int32} {u : zSt}, zDy D A s.heap ((fun u : zSt => k7 a cI cZ u) u) H locs → Q1 r u → decode cX7_costs pc = .ok (.ireturn, 1) → W p l e ({ frames := 0, cells := 0, slots := 0, locals := 0 } : Room) s m args below meth c H locs 0 0 Q (F0 m pc ls [.int r])) (hv : wp_X7_costs_0 Q1 p1 p2 u7) : W p l e ({ frames := 0, cells := 0, slots := 0, locals := 0 } : Room) s m args below meth c H locs 0 0 Q (F0 m 0 ls []) := by
  unfold wp_X7_costs_0 at hv
  obtain ⟨hx, hb, hml, hown, hts, hK, hA⟩ := id C
  refine lv_iload_n hx hb dX7_costs_0 rfl (lv_at hl 1 rfl) ?_
  refine lv_bipush (v := 6) hx hb dX7_costs_1 (by decide) ?_
  refine lv_icmp_ne (tgt := 10) hx hb dX7_costs_3 (by decide) (fun hc => ?_) (fun hc => ?_)
  · have hv := hv.2 hc
    refine lv_aload_n hx hb dX7_costs_10 rfl (lv_at hl 0 rfl) ?_
    refine z_get C Y (Cn := RX7) (T := TX7) (N := 42) in_X7_costs_7 rfl (ge7_7 ..) 37 (by decide) fl_X7_costs_80 rfl dX7_costs_11 ?_
    refine lv_bipush (v := 6) hx hb dX7_costs_14 (by decide) ?_
    refine lv_iload_n hx hb dX7_costs_16 rfl (lv_at hl 1 rfl) ?_
    refine lv_imul hx hb dX7_costs_17 ?_
    refine lv_iload_n hx hb dX7_costs_18 rfl (lv_at hl 2 rfl) ?_
    refine lv_iadd hx hb dX7_costs_19 ?_
    obtain ⟨hi, hv⟩ := hv
    refine z_ldI C Y (pa7_7_37 ..) hi dX7_costs_20 ?_
    exact hret Y hv dX7_costs_21
  · have hv := hv.1 hc
    refine lv_iconst (v := 0) hx hb dX7_costs_6 (by decide) ?_
    refine lv_goto (tgt := 21) hx hb dX7_costs_7 (by decide) ?_
    exact hret Y hv dX7_costs_21

end
abbrev TX7_costs := wp_X7_costs_0
set_option maxHeartbeats 4000000 in
set_option maxRecDepth 100000 in
theorem c_X7_costs (l : Launch) {D : va_G} {cI cZ cJ : ClassId} {a : Nat → Nat → Nat} {Q1 : Int32 → zSt → Prop} {p1 : Int32} {p2 : Int32} {u7 : zSt} (hv : wp_X7_costs_0 Q1 p1 p2 u7) : zMI l yX7_costs wsX7_costs ({ frames := 0, cells := 0, slots := 0, locals := 0 } : Room) D cI cZ cJ [.ref (a 7 99), .int p1, .int p2] (k7 a cI cZ u7) (fun u : zSt => k7 a cI cZ u) Q1 :=
  z_ofI (by decide) rfl rfl (Nat.le_of_ble_eq_true rfl) (fun C Y hl hret => bk_X7_costs_0 C Y hl hret hv)


theorem in_X7_next_7 : ∀ w ∈ wsX70, w ∈ wsX7_next := by first | exact fun w h => List.mem_cons_of_mem _ (List.mem_append_right _ h) | exact fun w h => List.mem_cons_of_mem _ (List.mem_append_left _ (List.mem_append_right _ h)) | decide +kernel
theorem fl_X7_next_83 : Cond.fieldLink RX7 83 (TX7 38).1 (TX7 38).2.1 (TX7 38).2.2.1 ∈ wsX7_next := by decide +kernel
theorem fl_X7_next_90 : Cond.fieldLink RX7 90 (TX7 41).1 (TX7 41).2.1 (TX7 41).2.2.1 ∈ wsX7_next := by decide +kernel
section
variable {p : Program} {l : Launch} {e : Env} {s : State} {m : MethodId} {args : Array Value} {below : List Frame} {meth : Method} {c : Code} {H : Heap} {locs : List Loc} {Q : State → Prop} {D : va_G} {cI cZ cJ : ClassId} {A : Nat → Prop} {ls : Array Slot}
def wp_X7_next_0 (Q1 : Int32 → zSt → Prop) (p1 : Int32) (p2 : Int32) (p3 : Int32) (u7 : zSt) : Prop :=
  vp_in p3 10 ∧ (TX7_costs (fun (r_2 : Int32) (u7_1 : zSt) => vp_in p3 10 ∧ (vp_in (((p1 ||| ((1 : Int32) <<< ((p3 : Int32) &&& 31))) * 7) + (u7_1.2 38 p3.toNatClampNeg)) 7168 ∧ (Q1 (r_2 + (u7_1.2 41 (((p1 ||| ((1 : Int32) <<< ((p3 : Int32) &&& 31))) * 7) + (u7_1.2 38 p3.toNatClampNeg)).toNatClampNeg)) u7_1))) p2 (u7.2 38 p3.toNatClampNeg) u7)

set_option maxHeartbeats 4000000 in
set_option maxRecDepth 100000 in
theorem bk_X7_next_0 {a : Nat → Nat → Nat} {Q1 : Int32 → zSt → Prop} {p1 : Int32} {p2 : Int32} {p3 : Int32} {u7 : zSt} (C : zCx p s m args c cX7_next 4 RX7 wsX7_next D cI cZ cJ A) (Y : zDy D A s.heap (k7 a cI cZ u7) H locs) (hl : lv_has ls 4 [(0, .ref (a 7 99)), (1, .int p1), (2, .int p2), (3, .int p3)]) (hret : ∀ {pc : Nat} {H : Heap} {locs : List Loc} {ls : Array Slot} {r : Int32} {u : zSt}, zDy D A s.heap ((fun u : zSt => k7 a cI cZ u) u) H locs → Q1 r u → decode cX7_next pc = .ok (.ireturn, 1) → W p l e ({ frames := 1, cells := 0, slots := 0, locals := 22 } : Room) s m args below meth c H locs 0 0 Q (F0 m pc ls [.int r])) (hv : wp_X7_next_0 Q1 p1 p2 p3 u7) : W p l e ({ frames := 1, cells := 0, slots := 0, locals := 22 } : Room) s m args below meth c H locs 0 0 Q (F0 m 0 ls []) := by
  unfold wp_X7_next_0 at hv
  obtain ⟨hx, hb, hml, hown, hts, hK, hA⟩ := id C
  refine lv_aload_n hx hb dX7_next_0 rfl (lv_at hl 0 rfl) ?_
  refine lv_iload_n hx hb dX7_next_1 rfl (lv_at hl 2 rfl) ?_
  refine lv_aload_n hx hb dX7_next_2 rfl (lv_at hl 0 rfl) ?_
  refine z_get C Y (Cn := RX7) (T := TX7) (N := 42) in_X7_next_7 rfl (ge7_7 ..) 38 (by decide) fl_X7_next_83 rfl dX7_next_3 ?_
  refine lv_iload_n hx hb dX7_next_6 rfl (lv_at hl 3 rfl) ?_
  obtain ⟨hi, hv⟩ := hv
  refine z_ldI C Y (pa7_7_38 ..) hi dX7_next_7 ?_
  refine z_callVi C Y (c_X7_costs l hv) (zFr.self _ _) (cwV 2 hts gX7_next_X7_costs rfl rfl rfl (by decide +kernel) ⟨(Nat.le_of_ble_eq_true rfl), (Nat.le_of_ble_eq_true rfl)⟩) (ge7_7 ..) rfl rfl rfl hl.1 rfl (Nat.le_of_ble_eq_true rfl) dX7_next_8 ⟨Nat.zero_le _, Nat.zero_le _⟩ (fun r_2 u7_1 H locs Y hv => ?_)
  refine lv_aload_n hx hb dX7_next_11 rfl (lv_at hl 0 rfl) ?_
  refine z_get C Y (Cn := RX7) (T := TX7) (N := 42) in_X7_next_7 rfl (ge7_7 ..) 41 (by decide) fl_X7_next_90 rfl dX7_next_12 ?_
  refine lv_iload_n hx hb dX7_next_15 rfl (lv_at hl 1 rfl) ?_
  refine lv_iconst (v := 1) hx hb dX7_next_16 (by decide) ?_
  refine lv_iload_n hx hb dX7_next_17 rfl (lv_at hl 3 rfl) ?_
  refine lv_ishl hx hb dX7_next_18 ?_
  refine lv_ior hx hb dX7_next_19 ?_
  refine lv_bipush (v := 7) hx hb dX7_next_20 (by decide) ?_
  refine lv_imul hx hb dX7_next_22 ?_
  refine lv_aload_n hx hb dX7_next_23 rfl (lv_at hl 0 rfl) ?_
  refine z_get C Y (Cn := RX7) (T := TX7) (N := 42) in_X7_next_7 rfl (ge7_7 ..) 38 (by decide) fl_X7_next_83 rfl dX7_next_24 ?_
  refine lv_iload_n hx hb dX7_next_27 rfl (lv_at hl 3 rfl) ?_
  obtain ⟨hi, hv⟩ := hv
  refine z_ldI C Y (pa7_7_38 ..) hi dX7_next_28 ?_
  refine lv_iadd hx hb dX7_next_29 ?_
  obtain ⟨hi, hv⟩ := hv
  refine z_ldI C Y (pa7_7_41 ..) hi dX7_next_30 ?_
  refine lv_iadd hx hb dX7_next_31 ?_
  exact hret Y hv dX7_next_32

end
abbrev TX7_next := wp_X7_next_0
set_option maxHeartbeats 4000000 in
set_option maxRecDepth 100000 in
theorem c_X7_next (l : Launch) {D : va_G} {cI cZ cJ : ClassId} {a : Nat → Nat → Nat} {Q1 : Int32 → zSt → Prop} {p1 : Int32} {p2 : Int32} {p3 : Int32} {u7 : zSt} (hv : wp_X7_next_0 Q1 p1 p2 p3 u7) : zMI l yX7_next wsX7_next ({ frames := 1, cells := 0, slots := 0, locals := 22 } : Room) D cI cZ cJ [.ref (a 7 99), .int p1, .int p2, .int p3] (k7 a cI cZ u7) (fun u : zSt => k7 a cI cZ u) Q1 :=
  z_ofI (by decide) rfl rfl (Nat.le_of_ble_eq_true rfl) (fun C Y hl hret => bk_X7_next_0 C Y hl hret hv)


theorem in_X7_changes_7 : ∀ w ∈ wsX70, w ∈ wsX7_changes := by first | exact fun w h => List.mem_cons_of_mem _ (List.mem_append_right _ h) | exact fun w h => List.mem_cons_of_mem _ (List.mem_append_left _ (List.mem_append_right _ h)) | decide +kernel
theorem fl_X7_changes_83 : Cond.fieldLink RX7 83 (TX7 38).1 (TX7 38).2.1 (TX7 38).2.2.1 ∈ wsX7_changes := by decide +kernel
theorem fl_X7_changes_86 : Cond.fieldLink RX7 86 (TX7 40).1 (TX7 40).2.1 (TX7 40).2.2.1 ∈ wsX7_changes := by decide +kernel
theorem fl_X7_changes_90 : Cond.fieldLink RX7 90 (TX7 41).1 (TX7 41).2.1 (TX7 41).2.2.1 ∈ wsX7_changes := by decide +kernel
theorem fl_X7_changes_93 : Cond.fieldLink RX7 93 (TX7 0).1 (TX7 0).2.1 (TX7 0).2.2.1 ∈ wsX7_changes := by decide +kernel
theorem fl_X7_changes_199 : Cond.fieldLink RX7 199 (TX7 39).1 (TX7 39).2.1 (TX7 39).2.2.1 ∈ wsX7_changes := by decide +kernel
theorem mm_X7_changes_min : z_mw RX7 158 Lib.Math.min.name Lib.Math.min.code wsX7_changes := ⟨by decide +kernel, by decide +kernel, by decide +kernel, by decide +kernel⟩
section
variable {p : Program} {l : Launch} {e : Env} {s : State} {m : MethodId} {args : Array Value} {below : List Frame} {meth : Method} {c : Code} {H : Heap} {locs : List Loc} {Q : State → Prop} {D : va_G} {cI cZ cJ : ClassId} {A : Nat → Prop} {ls : Array Slot}
def wp_X7_changes_0 (J25 : Int32 → Int32 → zSt → Prop) (J31 : Int32 → Int32 → Int32 → zSt → Prop) (J53 : Int32 → Int32 → Int32 → Int32 → Int32 → zSt → Prop) (J144 : Int32 → Int32 → Int32 → Int32 → zSt → Prop) (J156 : Int32 → Int32 → Int32 → Int32 → Int32 → Int32 → zSt → Prop) (Q1 : Int32 → zSt → Prop) (u7 : zSt) : Prop :=
  ∀ u7_1 : zSt, u7_1 = zI u7 0 0 → ∀ x1_2 : Int32, x1_2 = (((1 : Int32) <<< (((u7_1.1 39) : Int32) &&& 31)) - 1) → ((u7_1.1 39) = (0 : Int32) → Q1 0 u7_1) ∧ (¬ (u7_1.1 39) = (0 : Int32) → J25 x1_2 x1_2 u7_1)

set_option maxHeartbeats 4000000 in
set_option maxRecDepth 100000 in
theorem bk_X7_changes_0 {a : Nat → Nat → Nat} {J25 : Int32 → Int32 → zSt → Prop} {J31 : Int32 → Int32 → Int32 → zSt → Prop} {J53 : Int32 → Int32 → Int32 → Int32 → Int32 → zSt → Prop} {J144 : Int32 → Int32 → Int32 → Int32 → zSt → Prop} {J156 : Int32 → Int32 → Int32 → Int32 → Int32 → Int32 → zSt → Prop} {Q1 : Int32 → zSt → Prop} {u7 : zSt} (C : zCx p s m args c cX7_changes 7 RX7 wsX7_changes D cI cZ cJ A) (Y : zDy D A s.heap (k7 a cI cZ u7) H locs) (hl : lv_has ls 7 [(0, .ref (a 7 99))]) (hret : ∀ {pc : Nat} {H : Heap} {locs : List Loc} {ls : Array Slot} {r : Int32} {u : zSt}, zDy D A s.heap ((fun u : zSt => k7 a cI cZ u) u) H locs → Q1 r u → decode cX7_changes pc = .ok (.ireturn, 1) → W p l e ({ frames := 2, cells := 0, slots := 0, locals := 45 } : Room) s m args below meth c H locs 0 0 Q (F0 m pc ls [.int r])) (hJ25 : ∀ (x1 : Int32) (x2 : Int32) (u7 : zSt) (H : Heap) (locs : List Loc) (ls : Array Slot), J25 x1 x2 u7 → zDy D A s.heap (k7 a cI cZ u7) H locs → lv_has ls 7 [(0, .ref (a 7 99)), (1, .int x1), (2, .int x2)] → W p l e ({ frames := 2, cells := 0, slots := 0, locals := 45 } : Room) s m args below meth c H locs 0 0 Q (F0 m 25 ls [])) (hJ31 : ∀ (x1 : Int32) (x2 : Int32) (x3 : Int32) (u7 : zSt) (H : Heap) (locs : List Loc) (ls : Array Slot), J31 x1 x2 x3 u7 → zDy D A s.heap (k7 a cI cZ u7) H locs → lv_has ls 7 [(0, .ref (a 7 99)), (1, .int x1), (2, .int x2), (3, .int x3)] → W p l e ({ frames := 2, cells := 0, slots := 0, locals := 45 } : Room) s m args below meth c H locs 0 0 Q (F0 m 31 ls [])) (hJ53 : ∀ (x1 : Int32) (x2 : Int32) (x3 : Int32) (x4 : Int32) (x5 : Int32) (u7 : zSt) (H : Heap) (locs : List Loc) (ls : Array Slot), J53 x1 x2 x3 x4 x5 u7 → zDy D A s.heap (k7 a cI cZ u7) H locs → lv_has ls 7 [(0, .ref (a 7 99)), (1, .int x1), (2, .int x2), (3, .int x3), (4, .int x4), (5, .int x5)] → W p l e ({ frames := 2, cells := 0, slots := 0, locals := 45 } : Room) s m args below meth c H locs 0 0 Q (F0 m 53 ls [])) (hJ144 : ∀ (x1 : Int32) (x2 : Int32) (x3 : Int32) (x4 : Int32) (u7 : zSt) (H : Heap) (locs : List Loc) (ls : Array Slot), J144 x1 x2 x3 x4 u7 → zDy D A s.heap (k7 a cI cZ u7) H locs → lv_has ls 7 [(0, .ref (a 7 99)), (1, .int x1), (2, .int x2), (3, .int x3), (4, .int x4)] → W p l e ({ frames := 2, cells := 0, slots := 0, locals := 45 } : Room) s m args below meth c H locs 0 0 Q (F0 m 144 ls [])) (hJ156 : ∀ (x1 : Int32) (x2 : Int32) (x3 : Int32) (x4 : Int32) (x5 : Int32) (x6 : Int32) (u7 : zSt) (H : Heap) (locs : List Loc) (ls : Array Slot), J156 x1 x2 x3 x4 x5 x6 u7 → zDy D A s.heap (k7 a cI cZ u7) H locs → lv_has ls 7 [(0, .ref (a 7 99)), (1, .int x1), (2, .int x2), (3, .int x3), (4, .int x4), (5, .int x5), (6, .int x6)] → W p l e ({ frames := 2, cells := 0, slots := 0, locals := 45 } : Room) s m args below meth c H locs 0 0 Q (F0 m 156 ls [])) (hv : wp_X7_changes_0 J25 J31 J53 J144 J156 Q1  u7) : W p l e ({ frames := 2, cells := 0, slots := 0, locals := 45 } : Room) s m args below meth c H locs 0 0 Q (F0 m 0 ls []) := by
  unfold wp_X7_changes_0 at hv
  obtain ⟨hx, hb, hml, hown, hts, hK, hA⟩ := id C
  refine lv_aload_n hx hb dX7_changes_0 rfl (lv_at hl 0 rfl) ?_
  refine lv_iconst (v := 0) hx hb dX7_changes_1 (by decide) ?_
  refine z_putI C Y (Cn := RX7) (T := TX7) (N := 42) in_X7_changes_7 rfl tyX7 tyX7_ok nmX7 (ge7_7 ..) 0 (by decide) fl_X7_changes_93 rfl (by decide +kernel) (Nat.le_of_ble_eq_true rfl) (si7_7_0 ..) dX7_changes_2 (fun H locs Y => ?_)
  obtain ⟨u7_1, eu7_1, Y, hv⟩ := z_nm (kf := fun z => (k7 a cI cZ z)) Y hv
  refine lv_iconst (v := 1) hx hb dX7_changes_5 (by decide) ?_
  refine lv_aload_n hx hb dX7_changes_6 rfl (lv_at hl 0 rfl) ?_
  refine z_get C Y (Cn := RX7) (T := TX7) (N := 42) in_X7_changes_7 rfl (ge7_7 ..) 39 (by decide) fl_X7_changes_199 rfl dX7_changes_7 ?_
  refine lv_ishl hx hb dX7_changes_10 ?_
  refine lv_iconst (v := 1) hx hb dX7_changes_11 (by decide) ?_
  refine lv_isub hx hb dX7_changes_12 ?_
  refine z_topi hv (fun x1_2 ex1_2 hv => ?_)
  refine lv_istore_n (lv' := [(1, .int x1_2), (0, .ref (a 7 99))]) hx hb dX7_changes_13 rfl hl (by decide) rfl (fun ls hl => ?_)
  refine lv_aload_n hx hb dX7_changes_14 rfl (lv_at hl 1 rfl) ?_
  refine z_get C Y (Cn := RX7) (T := TX7) (N := 42) in_X7_changes_7 rfl (ge7_7 ..) 39 (by decide) fl_X7_changes_199 rfl dX7_changes_15 ?_
  refine lv_if_ne (tgt := 23) hx hb dX7_changes_18 (by decide) (fun hc => ?_) (fun hc => ?_)
  · have hv := hv.2 hc
    refine lv_iload_n hx hb dX7_changes_23 rfl (lv_at hl 0 rfl) ?_
    refine lv_istore_n (lv' := [(2, .int x1_2), (1, .int x1_2), (0, .ref (a 7 99))]) hx hb dX7_changes_24 rfl hl (by decide) rfl (fun ls hl => ?_)
    exact hJ25 _ _ _ _ _ _ hv Y (lv_sub hl [2, 1, 0] rfl)
  · have hv := hv.1 hc
    refine lv_iconst (v := 0) hx hb dX7_changes_21 (by decide) ?_
    exact hret Y hv dX7_changes_22

def wp_X7_changes_133 (J25 : Int32 → Int32 → zSt → Prop) (J31 : Int32 → Int32 → Int32 → zSt → Prop) (J53 : Int32 → Int32 → Int32 → Int32 → Int32 → zSt → Prop) (J144 : Int32 → Int32 → Int32 → Int32 → zSt → Prop) (J156 : Int32 → Int32 → Int32 → Int32 → Int32 → Int32 → zSt → Prop) (Q1 : Int32 → zSt → Prop) (x1 : Int32) (t0 : Int32) (u7 : zSt) : Prop :=
  ∀ x2_1 : Int32, x2_1 = t0 → vp_in x2_1 7168 ∧ (∀ x3_2 : Int32, x3_2 = (u7.2 41 x2_1.toNatClampNeg) → ∀ x4_3 : Int32, x4_3 = 0 → J144 x1 x2_1 x3_2 x4_3 u7)

set_option maxHeartbeats 4000000 in
set_option maxRecDepth 100000 in
theorem bk_X7_changes_133 {a : Nat → Nat → Nat} {J25 : Int32 → Int32 → zSt → Prop} {J31 : Int32 → Int32 → Int32 → zSt → Prop} {J53 : Int32 → Int32 → Int32 → Int32 → Int32 → zSt → Prop} {J144 : Int32 → Int32 → Int32 → Int32 → zSt → Prop} {J156 : Int32 → Int32 → Int32 → Int32 → Int32 → Int32 → zSt → Prop} {Q1 : Int32 → zSt → Prop} {x1 : Int32} {t0 : Int32} {u7 : zSt} (C : zCx p s m args c cX7_changes 7 RX7 wsX7_changes D cI cZ cJ A) (Y : zDy D A s.heap (k7 a cI cZ u7) H locs) (hl : lv_has ls 7 [(0, .ref (a 7 99)), (1, .int x1)]) (hret : ∀ {pc : Nat} {H : Heap} {locs : List Loc} {ls : Array Slot} {r : Int32} {u : zSt}, zDy D A s.heap ((fun u : zSt => k7 a cI cZ u) u) H locs → Q1 r u → decode cX7_changes pc = .ok (.ireturn, 1) → W p l e ({ frames := 2, cells := 0, slots := 0, locals := 45 } : Room) s m args below meth c H locs 0 0 Q (F0 m pc ls [.int r])) (hJ25 : ∀ (x1 : Int32) (x2 : Int32) (u7 : zSt) (H : Heap) (locs : List Loc) (ls : Array Slot), J25 x1 x2 u7 → zDy D A s.heap (k7 a cI cZ u7) H locs → lv_has ls 7 [(0, .ref (a 7 99)), (1, .int x1), (2, .int x2)] → W p l e ({ frames := 2, cells := 0, slots := 0, locals := 45 } : Room) s m args below meth c H locs 0 0 Q (F0 m 25 ls [])) (hJ31 : ∀ (x1 : Int32) (x2 : Int32) (x3 : Int32) (u7 : zSt) (H : Heap) (locs : List Loc) (ls : Array Slot), J31 x1 x2 x3 u7 → zDy D A s.heap (k7 a cI cZ u7) H locs → lv_has ls 7 [(0, .ref (a 7 99)), (1, .int x1), (2, .int x2), (3, .int x3)] → W p l e ({ frames := 2, cells := 0, slots := 0, locals := 45 } : Room) s m args below meth c H locs 0 0 Q (F0 m 31 ls [])) (hJ53 : ∀ (x1 : Int32) (x2 : Int32) (x3 : Int32) (x4 : Int32) (x5 : Int32) (u7 : zSt) (H : Heap) (locs : List Loc) (ls : Array Slot), J53 x1 x2 x3 x4 x5 u7 → zDy D A s.heap (k7 a cI cZ u7) H locs → lv_has ls 7 [(0, .ref (a 7 99)), (1, .int x1), (2, .int x2), (3, .int x3), (4, .int x4), (5, .int x5)] → W p l e ({ frames := 2, cells := 0, slots := 0, locals := 45 } : Room) s m args below meth c H locs 0 0 Q (F0 m 53 ls [])) (hJ144 : ∀ (x1 : Int32) (x2 : Int32) (x3 : Int32) (x4 : Int32) (u7 : zSt) (H : Heap) (locs : List Loc) (ls : Array Slot), J144 x1 x2 x3 x4 u7 → zDy D A s.heap (k7 a cI cZ u7) H locs → lv_has ls 7 [(0, .ref (a 7 99)), (1, .int x1), (2, .int x2), (3, .int x3), (4, .int x4)] → W p l e ({ frames := 2, cells := 0, slots := 0, locals := 45 } : Room) s m args below meth c H locs 0 0 Q (F0 m 144 ls [])) (hJ156 : ∀ (x1 : Int32) (x2 : Int32) (x3 : Int32) (x4 : Int32) (x5 : Int32) (x6 : Int32) (u7 : zSt) (H : Heap) (locs : List Loc) (ls : Array Slot), J156 x1 x2 x3 x4 x5 x6 u7 → zDy D A s.heap (k7 a cI cZ u7) H locs → lv_has ls 7 [(0, .ref (a 7 99)), (1, .int x1), (2, .int x2), (3, .int x3), (4, .int x4), (5, .int x5), (6, .int x6)] → W p l e ({ frames := 2, cells := 0, slots := 0, locals := 45 } : Room) s m args below meth c H locs 0 0 Q (F0 m 156 ls [])) (hv : wp_X7_changes_133 J25 J31 J53 J144 J156 Q1 x1 t0 u7) : W p l e ({ frames := 2, cells := 0, slots := 0, locals := 45 } : Room) s m args below meth c H locs 0 0 Q (F0 m 133 ls [.int t0]) := by
  unfold wp_X7_changes_133 at hv
  obtain ⟨hx, hb, hml, hown, hts, hK, hA⟩ := id C
  refine z_topi hv (fun x2_1 ex2_1 hv => ?_)
  refine lv_istore_n (lv' := [(2, .int x2_1), (0, .ref (a 7 99)), (1, .int x1)]) hx hb dX7_changes_133 rfl hl (by decide) rfl (fun ls hl => ?_)
  refine lv_aload_n hx hb dX7_changes_134 rfl (lv_at hl 1 rfl) ?_
  refine z_get C Y (Cn := RX7) (T := TX7) (N := 42) in_X7_changes_7 rfl (ge7_7 ..) 41 (by decide) fl_X7_changes_90 rfl dX7_changes_135 ?_
  refine lv_iload_n hx hb dX7_changes_138 rfl (lv_at hl 0 rfl) ?_
  obtain ⟨hi, hv⟩ := hv
  refine z_ldI C Y (pa7_7_41 ..) hi dX7_changes_139 ?_
  refine z_topi hv (fun x3_2 ex3_2 hv => ?_)
  refine lv_istore_n (lv' := [(3, .int x3_2), (2, .int x2_1), (0, .ref (a 7 99)), (1, .int x1)]) hx hb dX7_changes_140 rfl hl (by decide) rfl (fun ls hl => ?_)
  refine lv_iconst (v := 0) hx hb dX7_changes_141 (by decide) ?_
  refine z_topi hv (fun x4_3 ex4_3 hv => ?_)
  refine lv_istore (lv' := [(4, .int x4_3), (3, .int x3_2), (2, .int x2_1), (0, .ref (a 7 99)), (1, .int x1)]) hx hb dX7_changes_142 hl (by decide) rfl (fun ls hl => ?_)
  exact hJ144 _ _ _ _ _ _ _ _ hv Y (lv_sub hl [3, 4, 2, 1, 0] rfl)

def wp_X7_changes_25 (J25 : Int32 → Int32 → zSt → Prop) (J31 : Int32 → Int32 → Int32 → zSt → Prop) (J53 : Int32 → Int32 → Int32 → Int32 → Int32 → zSt → Prop) (J144 : Int32 → Int32 → Int32 → Int32 → zSt → Prop) (J156 : Int32 → Int32 → Int32 → Int32 → Int32 → Int32 → zSt → Prop) (Q1 : Int32 → zSt → Prop) (x1 : Int32) (x2 : Int32) (u7 : zSt) : Prop :=
  (x2 < (0 : Int32) → ((0 : Int32) ≤ (u7.1 40) → wp_X7_changes_133 J25 J31 J53 J144 J156 Q1 x1 (u7.1 40) u7) ∧ (¬ (0 : Int32) ≤ (u7.1 40) → wp_X7_changes_133 J25 J31 J53 J144 J156 Q1 x1 6 u7)) ∧ (¬ x2 < (0 : Int32) → ∀ x3_1 : Int32, x3_1 = 0 → J31 x1 x2 x3_1 u7)

set_option maxHeartbeats 4000000 in
set_option maxRecDepth 100000 in
theorem bk_X7_changes_25 {a : Nat → Nat → Nat} {J25 : Int32 → Int32 → zSt → Prop} {J31 : Int32 → Int32 → Int32 → zSt → Prop} {J53 : Int32 → Int32 → Int32 → Int32 → Int32 → zSt → Prop} {J144 : Int32 → Int32 → Int32 → Int32 → zSt → Prop} {J156 : Int32 → Int32 → Int32 → Int32 → Int32 → Int32 → zSt → Prop} {Q1 : Int32 → zSt → Prop} {x1 : Int32} {x2 : Int32} {u7 : zSt} (C : zCx p s m args c cX7_changes 7 RX7 wsX7_changes D cI cZ cJ A) (Y : zDy D A s.heap (k7 a cI cZ u7) H locs) (hl : lv_has ls 7 [(0, .ref (a 7 99)), (1, .int x1), (2, .int x2)]) (hret : ∀ {pc : Nat} {H : Heap} {locs : List Loc} {ls : Array Slot} {r : Int32} {u : zSt}, zDy D A s.heap ((fun u : zSt => k7 a cI cZ u) u) H locs → Q1 r u → decode cX7_changes pc = .ok (.ireturn, 1) → W p l e ({ frames := 2, cells := 0, slots := 0, locals := 45 } : Room) s m args below meth c H locs 0 0 Q (F0 m pc ls [.int r])) (hJ25 : ∀ (x1 : Int32) (x2 : Int32) (u7 : zSt) (H : Heap) (locs : List Loc) (ls : Array Slot), J25 x1 x2 u7 → zDy D A s.heap (k7 a cI cZ u7) H locs → lv_has ls 7 [(0, .ref (a 7 99)), (1, .int x1), (2, .int x2)] → W p l e ({ frames := 2, cells := 0, slots := 0, locals := 45 } : Room) s m args below meth c H locs 0 0 Q (F0 m 25 ls [])) (hJ31 : ∀ (x1 : Int32) (x2 : Int32) (x3 : Int32) (u7 : zSt) (H : Heap) (locs : List Loc) (ls : Array Slot), J31 x1 x2 x3 u7 → zDy D A s.heap (k7 a cI cZ u7) H locs → lv_has ls 7 [(0, .ref (a 7 99)), (1, .int x1), (2, .int x2), (3, .int x3)] → W p l e ({ frames := 2, cells := 0, slots := 0, locals := 45 } : Room) s m args below meth c H locs 0 0 Q (F0 m 31 ls [])) (hJ53 : ∀ (x1 : Int32) (x2 : Int32) (x3 : Int32) (x4 : Int32) (x5 : Int32) (u7 : zSt) (H : Heap) (locs : List Loc) (ls : Array Slot), J53 x1 x2 x3 x4 x5 u7 → zDy D A s.heap (k7 a cI cZ u7) H locs → lv_has ls 7 [(0, .ref (a 7 99)), (1, .int x1), (2, .int x2), (3, .int x3), (4, .int x4), (5, .int x5)] → W p l e ({ frames := 2, cells := 0, slots := 0, locals := 45 } : Room) s m args below meth c H locs 0 0 Q (F0 m 53 ls [])) (hJ144 : ∀ (x1 : Int32) (x2 : Int32) (x3 : Int32) (x4 : Int32) (u7 : zSt) (H : Heap) (locs : List Loc) (ls : Array Slot), J144 x1 x2 x3 x4 u7 → zDy D A s.heap (k7 a cI cZ u7) H locs → lv_has ls 7 [(0, .ref (a 7 99)), (1, .int x1), (2, .int x2), (3, .int x3), (4, .int x4)] → W p l e ({ frames := 2, cells := 0, slots := 0, locals := 45 } : Room) s m args below meth c H locs 0 0 Q (F0 m 144 ls [])) (hJ156 : ∀ (x1 : Int32) (x2 : Int32) (x3 : Int32) (x4 : Int32) (x5 : Int32) (x6 : Int32) (u7 : zSt) (H : Heap) (locs : List Loc) (ls : Array Slot), J156 x1 x2 x3 x4 x5 x6 u7 → zDy D A s.heap (k7 a cI cZ u7) H locs → lv_has ls 7 [(0, .ref (a 7 99)), (1, .int x1), (2, .int x2), (3, .int x3), (4, .int x4), (5, .int x5), (6, .int x6)] → W p l e ({ frames := 2, cells := 0, slots := 0, locals := 45 } : Room) s m args below meth c H locs 0 0 Q (F0 m 156 ls [])) (hv : wp_X7_changes_25 J25 J31 J53 J144 J156 Q1 x1 x2 u7) : W p l e ({ frames := 2, cells := 0, slots := 0, locals := 45 } : Room) s m args below meth c H locs 0 0 Q (F0 m 25 ls []) := by
  unfold wp_X7_changes_25 at hv
  obtain ⟨hx, hb, hml, hown, hts, hK, hA⟩ := id C
  refine lv_iload_n hx hb dX7_changes_25 rfl (lv_at hl 2 rfl) ?_
  refine lv_if_lt (tgt := 117) hx hb dX7_changes_26 (by decide) (fun hc => ?_) (fun hc => ?_)
  · have hv := hv.1 hc
    refine lv_aload_n hx hb dX7_changes_117 rfl (lv_at hl 0 rfl) ?_
    refine z_get C Y (Cn := RX7) (T := TX7) (N := 42) in_X7_changes_7 rfl (ge7_7 ..) 40 (by decide) fl_X7_changes_86 rfl dX7_changes_118 ?_
    refine lv_if_ge (tgt := 129) hx hb dX7_changes_121 (by decide) (fun hc => ?_) (fun hc => ?_)
    · have hv := hv.1 hc
      refine lv_aload_n hx hb dX7_changes_129 rfl (lv_at hl 0 rfl) ?_
      refine z_get C Y (Cn := RX7) (T := TX7) (N := 42) in_X7_changes_7 rfl (ge7_7 ..) 40 (by decide) fl_X7_changes_86 rfl dX7_changes_130 ?_
      exact bk_X7_changes_133 C Y (lv_sub hl [0, 1] rfl) hret hJ25 hJ31 hJ53 hJ144 hJ156 hv
    · have hv := hv.2 hc
      refine lv_bipush (v := 6) hx hb dX7_changes_124 (by decide) ?_
      refine lv_goto (tgt := 133) hx hb dX7_changes_126 (by decide) ?_
      exact bk_X7_changes_133 C Y (lv_sub hl [0, 1] rfl) hret hJ25 hJ31 hJ53 hJ144 hJ156 hv
  · have hv := hv.2 hc
    refine lv_iconst (v := 0) hx hb dX7_changes_29 (by decide) ?_
    refine z_topi hv (fun x3_1 ex3_1 hv => ?_)
    refine lv_istore_n (lv' := [(3, .int x3_1), (0, .ref (a 7 99)), (1, .int x1), (2, .int x2)]) hx hb dX7_changes_30 rfl hl (by decide) rfl (fun ls hl => ?_)
    exact hJ31 _ _ _ _ _ _ _ hv Y (lv_sub hl [1, 2, 3, 0] rfl)

def wp_X7_changes_48 (J25 : Int32 → Int32 → zSt → Prop) (J31 : Int32 → Int32 → Int32 → zSt → Prop) (J53 : Int32 → Int32 → Int32 → Int32 → Int32 → zSt → Prop) (J144 : Int32 → Int32 → Int32 → Int32 → zSt → Prop) (J156 : Int32 → Int32 → Int32 → Int32 → Int32 → Int32 → zSt → Prop) (Q1 : Int32 → zSt → Prop) (x1 : Int32) (x2 : Int32) (x3 : Int32) (t0 : Int32) (u7 : zSt) : Prop :=
  ∀ x4_1 : Int32, x4_1 = t0 → ∀ x5_2 : Int32, x5_2 = 0 → J53 x1 x2 x3 x4_1 x5_2 u7

set_option maxHeartbeats 4000000 in
set_option maxRecDepth 100000 in
theorem bk_X7_changes_48 {a : Nat → Nat → Nat} {J25 : Int32 → Int32 → zSt → Prop} {J31 : Int32 → Int32 → Int32 → zSt → Prop} {J53 : Int32 → Int32 → Int32 → Int32 → Int32 → zSt → Prop} {J144 : Int32 → Int32 → Int32 → Int32 → zSt → Prop} {J156 : Int32 → Int32 → Int32 → Int32 → Int32 → Int32 → zSt → Prop} {Q1 : Int32 → zSt → Prop} {x1 : Int32} {x2 : Int32} {x3 : Int32} {t0 : Int32} {u7 : zSt} (C : zCx p s m args c cX7_changes 7 RX7 wsX7_changes D cI cZ cJ A) (Y : zDy D A s.heap (k7 a cI cZ u7) H locs) (hl : lv_has ls 7 [(0, .ref (a 7 99)), (1, .int x1), (2, .int x2), (3, .int x3)]) (hret : ∀ {pc : Nat} {H : Heap} {locs : List Loc} {ls : Array Slot} {r : Int32} {u : zSt}, zDy D A s.heap ((fun u : zSt => k7 a cI cZ u) u) H locs → Q1 r u → decode cX7_changes pc = .ok (.ireturn, 1) → W p l e ({ frames := 2, cells := 0, slots := 0, locals := 45 } : Room) s m args below meth c H locs 0 0 Q (F0 m pc ls [.int r])) (hJ25 : ∀ (x1 : Int32) (x2 : Int32) (u7 : zSt) (H : Heap) (locs : List Loc) (ls : Array Slot), J25 x1 x2 u7 → zDy D A s.heap (k7 a cI cZ u7) H locs → lv_has ls 7 [(0, .ref (a 7 99)), (1, .int x1), (2, .int x2)] → W p l e ({ frames := 2, cells := 0, slots := 0, locals := 45 } : Room) s m args below meth c H locs 0 0 Q (F0 m 25 ls [])) (hJ31 : ∀ (x1 : Int32) (x2 : Int32) (x3 : Int32) (u7 : zSt) (H : Heap) (locs : List Loc) (ls : Array Slot), J31 x1 x2 x3 u7 → zDy D A s.heap (k7 a cI cZ u7) H locs → lv_has ls 7 [(0, .ref (a 7 99)), (1, .int x1), (2, .int x2), (3, .int x3)] → W p l e ({ frames := 2, cells := 0, slots := 0, locals := 45 } : Room) s m args below meth c H locs 0 0 Q (F0 m 31 ls [])) (hJ53 : ∀ (x1 : Int32) (x2 : Int32) (x3 : Int32) (x4 : Int32) (x5 : Int32) (u7 : zSt) (H : Heap) (locs : List Loc) (ls : Array Slot), J53 x1 x2 x3 x4 x5 u7 → zDy D A s.heap (k7 a cI cZ u7) H locs → lv_has ls 7 [(0, .ref (a 7 99)), (1, .int x1), (2, .int x2), (3, .int x3), (4, .int x4), (5, .int x5)] → W p l e ({ frames := 2, cells := 0, slots := 0, locals := 45 } : Room) s m args below meth c H locs 0 0 Q (F0 m 53 ls [])) (hJ144 : ∀ (x1 : Int32) (x2 : Int32) (x3 : Int32) (x4 : Int32) (u7 : zSt) (H : Heap) (locs : List Loc) (ls : Array Slot), J144 x1 x2 x3 x4 u7 → zDy D A s.heap (k7 a cI cZ u7) H locs → lv_has ls 7 [(0, .ref (a 7 99)), (1, .int x1), (2, .int x2), (3, .int x3), (4, .int x4)] → W p l e ({ frames := 2, cells := 0, slots := 0, locals := 45 } : Room) s m args below meth c H locs 0 0 Q (F0 m 144 ls [])) (hJ156 : ∀ (x1 : Int32) (x2 : Int32) (x3 : Int32) (x4 : Int32) (x5 : Int32) (x6 : Int32) (u7 : zSt) (H : Heap) (locs : List Loc) (ls : Array Slot), J156 x1 x2 x3 x4 x5 x6 u7 → zDy D A s.heap (k7 a cI cZ u7) H locs → lv_has ls 7 [(0, .ref (a 7 99)), (1, .int x1), (2, .int x2), (3, .int x3), (4, .int x4), (5, .int x5), (6, .int x6)] → W p l e ({ frames := 2, cells := 0, slots := 0, locals := 45 } : Room) s m args below meth c H locs 0 0 Q (F0 m 156 ls [])) (hv : wp_X7_changes_48 J25 J31 J53 J144 J156 Q1 x1 x2 x3 t0 u7) : W p l e ({ frames := 2, cells := 0, slots := 0, locals := 45 } : Room) s m args below meth c H locs 0 0 Q (F0 m 48 ls [.int t0]) := by
  unfold wp_X7_changes_48 at hv
  obtain ⟨hx, hb, hml, hown, hts, hK, hA⟩ := id C
  refine z_topi hv (fun x4_1 ex4_1 hv => ?_)
  refine lv_istore (lv' := [(4, .int x4_1), (0, .ref (a 7 99)), (1, .int x1), (2, .int x2), (3, .int x3)]) hx hb dX7_changes_48 hl (by decide) rfl (fun ls hl => ?_)
  refine lv_iconst (v := 0) hx hb dX7_changes_50 (by decide) ?_
  refine z_topi hv (fun x5_2 ex5_2 hv => ?_)
  refine lv_istore (lv' := [(5, .int x5_2), (4, .int x4_1), (0, .ref (a 7 99)), (1, .int x1), (2, .int x2), (3, .int x3)]) hx hb dX7_changes_51 hl (by decide) rfl (fun ls hl => ?_)
  exact hJ53 _ _ _ _ _ _ _ _ _ hv Y (lv_sub hl [2, 3, 4, 5, 1, 0] rfl)

def wp_X7_changes_31 (J25 : Int32 → Int32 → zSt → Prop) (J31 : Int32 → Int32 → Int32 → zSt → Prop) (J53 : Int32 → Int32 → Int32 → Int32 → Int32 → zSt → Prop) (J144 : Int32 → Int32 → Int32 → Int32 → zSt → Prop) (J156 : Int32 → Int32 → Int32 → Int32 → Int32 → Int32 → zSt → Prop) (Q1 : Int32 → zSt → Prop) (x1 : Int32) (x2 : Int32) (x3 : Int32) (u7 : zSt) : Prop :=
  ((6 : Int32) < x3 → ∀ x2_1 : Int32, x2_1 = x2 + (-1) → J25 x1 x2_1 u7) ∧ (¬ (6 : Int32) < x3 → (x2 = x1 → wp_X7_changes_48 J25 J31 J53 J144 J156 Q1 x1 x2 x3 0 u7) ∧ (¬ x2 = x1 → wp_X7_changes_48 J25 J31 J53 J144 J156 Q1 x1 x2 x3 1000000000 u7))

set_option maxHeartbeats 4000000 in
set_option maxRecDepth 100000 in
theorem bk_X7_changes_31 {a : Nat → Nat → Nat} {J25 : Int32 → Int32 → zSt → Prop} {J31 : Int32 → Int32 → Int32 → zSt → Prop} {J53 : Int32 → Int32 → Int32 → Int32 → Int32 → zSt → Prop} {J144 : Int32 → Int32 → Int32 → Int32 → zSt → Prop} {J156 : Int32 → Int32 → Int32 → Int32 → Int32 → Int32 → zSt → Prop} {Q1 : Int32 → zSt → Prop} {x1 : Int32} {x2 : Int32} {x3 : Int32} {u7 : zSt} (C : zCx p s m args c cX7_changes 7 RX7 wsX7_changes D cI cZ cJ A) (Y : zDy D A s.heap (k7 a cI cZ u7) H locs) (hl : lv_has ls 7 [(0, .ref (a 7 99)), (1, .int x1), (2, .int x2), (3, .int x3)]) (hret : ∀ {pc : Nat} {H : Heap} {locs : List Loc} {ls : Array Slot} {r : Int32} {u : zSt}, zDy D A s.heap ((fun u : zSt => k7 a cI cZ u) u) H locs → Q1 r u → decode cX7_changes pc = .ok (.ireturn, 1) → W p l e ({ frames := 2, cells := 0, slots := 0, locals := 45 } : Room) s m args below meth c H locs 0 0 Q (F0 m pc ls [.int r])) (hJ25 : ∀ (x1 : Int32) (x2 : Int32) (u7 : zSt) (H : Heap) (locs : List Loc) (ls : Array Slot), J25 x1 x2 u7 → zDy D A s.heap (k7 a cI cZ u7) H locs → lv_has ls 7 [(0, .ref (a 7 99)), (1, .int x1), (2, .int x2)] → W p l e ({ frames := 2, cells := 0, slots := 0, locals := 45 } : Room) s m args below meth c H locs 0 0 Q (F0 m 25 ls [])) (hJ31 : ∀ (x1 : Int32) (x2 : Int32) (x3 : Int32) (u7 : zSt) (H : Heap) (locs : List Loc) (ls : Array Slot), J31 x1 x2 x3 u7 → zDy D A s.heap (k7 a cI cZ u7) H locs → lv_has ls 7 [(0, .ref (a 7 99)), (1, .int x1), (2, .int x2), (3, .int x3)] → W p l e ({ frames := 2, cells := 0, slots := 0, locals := 45 } : Room) s m args below meth c H locs 0 0 Q (F0 m 31 ls [])) (hJ53 : ∀ (x1 : Int32) (x2 : Int32) (x3 : Int32) (x4 : Int32) (x5 : Int32) (u7 : zSt) (H : Heap) (locs : List Loc) (ls : Array Slot), J53 x1 x2 x3 x4 x5 u7 → zDy D A s.heap (k7 a cI cZ u7) H locs → lv_has ls 7 [(0, .ref (a 7 99)), (1, .int x1), (2, .int x2), (3, .int x3), (4, .int x4), (5, .int x5)] → W p l e ({ frames := 2, cells := 0, slots := 0, locals := 45 } : Room) s m args below meth c H locs 0 0 Q (F0 m 53 ls [])) (hJ144 : ∀ (x1 : Int32) (x2 : Int32) (x3 : Int32) (x4 : Int32) (u7 : zSt) (H : Heap) (locs : List Loc) (ls : Array Slot), J144 x1 x2 x3 x4 u7 → zDy D A s.heap (k7 a cI cZ u7) H locs → lv_has ls 7 [(0, .ref (a 7 99)), (1, .int x1), (2, .int x2), (3, .int x3), (4, .int x4)] → W p l e ({ frames := 2, cells := 0, slots := 0, locals := 45 } : Room) s m args below meth c H locs 0 0 Q (F0 m 144 ls [])) (hJ156 : ∀ (x1 : Int32) (x2 : Int32) (x3 : Int32) (x4 : Int32) (x5 : Int32) (x6 : Int32) (u7 : zSt) (H : Heap) (locs : List Loc) (ls : Array Slot), J156 x1 x2 x3 x4 x5 x6 u7 → zDy D A s.heap (k7 a cI cZ u7) H locs → lv_has ls 7 [(0, .ref (a 7 99)), (1, .int x1), (2, .int x2), (3, .int x3), (4, .int x4), (5, .int x5), (6, .int x6)] → W p l e ({ frames := 2, cells := 0, slots := 0, locals := 45 } : Room) s m args below meth c H locs 0 0 Q (F0 m 156 ls [])) (hv : wp_X7_changes_31 J25 J31 J53 J144 J156 Q1 x1 x2 x3 u7) : W p l e ({ frames := 2, cells := 0, slots := 0, locals := 45 } : Room) s m args below meth c H locs 0 0 Q (F0 m 31 ls []) := by
  unfold wp_X7_changes_31 at hv
  obtain ⟨hx, hb, hml, hown, hts, hK, hA⟩ := id C
  refine lv_iload_n hx hb dX7_changes_31 rfl (lv_at hl 3 rfl) ?_
  refine lv_bipush (v := 6) hx hb dX7_changes_32 (by decide) ?_
  refine lv_icmp_gt (tgt := 111) hx hb dX7_changes_34 (by decide) (fun hc => ?_) (fun hc => ?_)
  · have hv := hv.1 hc
    obtain ⟨x2_1, ex2_1, hv⟩ := z_nv hv
    refine lv_iinc (v := x2_1) (lv' := [(2, .int x2_1), (0, .ref (a 7 99)), (1, .int x1), (3, .int x3)]) hx hb dX7_changes_111 hl (k := 2) rfl (by rw [ex2_1]; rfl) (by decide) rfl (fun ls hl => ?_)
    refine lv_goto (tgt := 25) hx hb dX7_changes_114 (by decide) ?_
    exact hJ25 _ _ _ _ _ _ hv Y (lv_sub hl [1, 2, 0] rfl)
  · have hv := hv.2 hc
    refine lv_iload_n hx hb dX7_changes_37 rfl (lv_at hl 2 rfl) ?_
    refine lv_iload_n hx hb dX7_changes_38 rfl (lv_at hl 1 rfl) ?_
    refine lv_icmp_ne (tgt := 46) hx hb dX7_changes_39 (by decide) (fun hc => ?_) (fun hc => ?_)
    · have hv := hv.2 hc
      refine lv_ldc (v := 1000000000) hx hb hown (hts (.constant RX7 205 1000000000) (by decide +kernel)) dX7_changes_46 ?_
      exact bk_X7_changes_48 C Y (lv_sub hl [0, 1, 2, 3] rfl) hret hJ25 hJ31 hJ53 hJ144 hJ156 hv
    · have hv := hv.1 hc
      refine lv_iconst (v := 0) hx hb dX7_changes_42 (by decide) ?_
      refine lv_goto (tgt := 48) hx hb dX7_changes_43 (by decide) ?_
      exact bk_X7_changes_48 C Y (lv_sub hl [0, 1, 2, 3] rfl) hret hJ25 hJ31 hJ53 hJ144 hJ156 hv

def wp_X7_changes_53 (J25 : Int32 → Int32 → zSt → Prop) (J31 : Int32 → Int32 → Int32 → zSt → Prop) (J53 : Int32 → Int32 → Int32 → Int32 → Int32 → zSt → Prop) (J144 : Int32 → Int32 → Int32 → Int32 → zSt → Prop) (J156 : Int32 → Int32 → Int32 → Int32 → Int32 → Int32 → zSt → Prop) (Q1 : Int32 → zSt → Prop) (x1 : Int32) (x2 : Int32) (x3 : Int32) (x4 : Int32) (x5 : Int32) (u7 : zSt) : Prop :=
  ((u7.1 39) ≤ x5 → vp_in ((x2 * 7) + x3) 7168 ∧ (∀ u7_1 : zSt, u7_1 = zA u7 41 (upd (u7.2 41) ((x2 * 7) + x3).toNatClampNeg x4) → ∀ x3_2 : Int32, x3_2 = x3 + 1 → J31 x1 x2 x3_2 u7_1)) ∧ (¬ (u7.1 39) ≤ x5 → ((((x2 : Int32) >>> ((x5 : Int32) &&& 31)) &&& 1) = (0 : Int32) → TX7_next (fun (r_5 : Int32) (u7_4 : zSt) => ∀ x4_6 : Int32, x4_6 = (if r_5 < x4 then r_5 else x4) → ∀ x5_7 : Int32, x5_7 = x5 + 1 → J53 x1 x2 x3 x4_6 x5_7 u7_4) x2 x3 x5 u7) ∧ (¬ (((x2 : Int32) >>> ((x5 : Int32) &&& 31)) &&& 1) = (0 : Int32) → ∀ x5_3 : Int32, x5_3 = x5 + 1 → J53 x1 x2 x3 x4 x5_3 u7))

set_option maxHeartbeats 4000000 in
set_option maxRecDepth 100000 in
theorem bk_X7_changes_53 {a : Nat → Nat → Nat} {J25 : Int32 → Int32 → zSt → Prop} {J31 : Int32 → Int32 → Int32 → zSt → Prop} {J53 : Int32 → Int32 → Int32 → Int32 → Int32 → zSt → Prop} {J144 : Int32 → Int32 → Int32 → Int32 → zSt → Prop} {J156 : Int32 → Int32 → Int32 → Int32 → Int32 → Int32 → zSt → Prop} {Q1 : Int32 → zSt → Prop} {x1 : Int32} {x2 : Int32} {x3 : Int32} {x4 : Int32} {x5 : Int32} {u7 : zSt} (C : zCx p s m args c cX7_changes 7 RX7 wsX7_changes D cI cZ cJ A) (Y : zDy D A s.heap (k7 a cI cZ u7) H locs) (hl : lv_has ls 7 [(0, .ref (a 7 99)), (1, .int x1), (2, .int x2), (3, .int x3), (4, .int x4), (5, .int x5)]) (hret : ∀ {pc : Nat} {H : Heap} {locs : List Loc} {ls : Array Slot} {r : Int32} {u : zSt}, zDy D A s.heap ((fun u : zSt => k7 a cI cZ u) u) H locs → Q1 r u → decode cX7_changes pc = .ok (.ireturn, 1) → W p l e ({ frames := 2, cells := 0, slots := 0, locals := 45 } : Room) s m args below meth c H locs 0 0 Q (F0 m pc ls [.int r])) (hJ25 : ∀ (x1 : Int32) (x2 : Int32) (u7 : zSt) (H : Heap) (locs : List Loc) (ls : Array Slot), J25 x1 x2 u7 → zDy D A s.heap (k7 a cI cZ u7) H locs → lv_has ls 7 [(0, .ref (a 7 99)), (1, .int x1), (2, .int x2)] → W p l e ({ frames := 2, cells := 0, slots := 0, locals := 45 } : Room) s m args below meth c H locs 0 0 Q (F0 m 25 ls [])) (hJ31 : ∀ (x1 : Int32) (x2 : Int32) (x3 : Int32) (u7 : zSt) (H : Heap) (locs : List Loc) (ls : Array Slot), J31 x1 x2 x3 u7 → zDy D A s.heap (k7 a cI cZ u7) H locs → lv_has ls 7 [(0, .ref (a 7 99)), (1, .int x1), (2, .int x2), (3, .int x3)] → W p l e ({ frames := 2, cells := 0, slots := 0, locals := 45 } : Room) s m args below meth c H locs 0 0 Q (F0 m 31 ls [])) (hJ53 : ∀ (x1 : Int32) (x2 : Int32) (x3 : Int32) (x4 : Int32) (x5 : Int32) (u7 : zSt) (H : Heap) (locs : List Loc) (ls : Array Slot), J53 x1 x2 x3 x4 x5 u7 → zDy D A s.heap (k7 a cI cZ u7) H locs → lv_has ls 7 [(0, .ref (a 7 99)), (1, .int x1), (2, .int x2), (3, .int x3), (4, .int x4), (5, .int x5)] → W p l e ({ frames := 2, cells := 0, slots := 0, locals := 45 } : Room) s m args below meth c H locs 0 0 Q (F0 m 53 ls [])) (hJ144 : ∀ (x1 : Int32) (x2 : Int32) (x3 : Int32) (x4 : Int32) (u7 : zSt) (H : Heap) (locs : List Loc) (ls : Array Slot), J144 x1 x2 x3 x4 u7 → zDy D A s.heap (k7 a cI cZ u7) H locs → lv_has ls 7 [(0, .ref (a 7 99)), (1, .int x1), (2, .int x2), (3, .int x3), (4, .int x4)] → W p l e ({ frames := 2, cells := 0, slots := 0, locals := 45 } : Room) s m args below meth c H locs 0 0 Q (F0 m 144 ls [])) (hJ156 : ∀ (x1 : Int32) (x2 : Int32) (x3 : Int32) (x4 : Int32) (x5 : Int32) (x6 : Int32) (u7 : zSt) (H : Heap) (locs : List Loc) (ls : Array Slot), J156 x1 x2 x3 x4 x5 x6 u7 → zDy D A s.heap (k7 a cI cZ u7) H locs → lv_has ls 7 [(0, .ref (a 7 99)), (1, .int x1), (2, .int x2), (3, .int x3), (4, .int x4), (5, .int x5), (6, .int x6)] → W p l e ({ frames := 2, cells := 0, slots := 0, locals := 45 } : Room) s m args below meth c H locs 0 0 Q (F0 m 156 ls [])) (hv : wp_X7_changes_53 J25 J31 J53 J144 J156 Q1 x1 x2 x3 x4 x5 u7) : W p l e ({ frames := 2, cells := 0, slots := 0, locals := 45 } : Room) s m args below meth c H locs 0 0 Q (F0 m 53 ls []) := by
  unfold wp_X7_changes_53 at hv
  obtain ⟨hx, hb, hml, hown, hts, hK, hA⟩ := id C
  refine lv_iload hx hb dX7_changes_53 (lv_at hl 5 rfl) ?_
  refine lv_aload_n hx hb dX7_changes_55 rfl (lv_at hl 0 rfl) ?_
  refine z_get C Y (Cn := RX7) (T := TX7) (N := 42) in_X7_changes_7 rfl (ge7_7 ..) 39 (by decide) fl_X7_changes_199 rfl dX7_changes_56 ?_
  refine lv_icmp_ge (tgt := 92) hx hb dX7_changes_59 (by decide) (fun hc => ?_) (fun hc => ?_)
  · have hv := hv.1 hc
    refine lv_aload_n hx hb dX7_changes_92 rfl (lv_at hl 0 rfl) ?_
    refine z_get C Y (Cn := RX7) (T := TX7) (N := 42) in_X7_changes_7 rfl (ge7_7 ..) 41 (by decide) fl_X7_changes_90 rfl dX7_changes_93 ?_
    refine lv_iload_n hx hb dX7_changes_96 rfl (lv_at hl 2 rfl) ?_
    refine lv_bipush (v := 7) hx hb dX7_changes_97 (by decide) ?_
    refine lv_imul hx hb dX7_changes_99 ?_
    refine lv_iload_n hx hb dX7_changes_100 rfl (lv_at hl 3 rfl) ?_
    refine lv_iadd hx hb dX7_changes_101 ?_
    refine lv_iload hx hb dX7_changes_102 (lv_at hl 4 rfl) ?_
    obtain ⟨hi, hv⟩ := hv
    refine z_stI C Y (pa7_7_41 ..) (sa7_7_41 ..) hi dX7_changes_104 (fun H locs Y => ?_)
    obtain ⟨u7_1, eu7_1, Y, hv⟩ := z_nm (kf := fun z => (k7 a cI cZ z)) Y hv
    obtain ⟨x3_2, ex3_2, hv⟩ := z_nv hv
    refine lv_iinc (v := x3_2) (lv' := [(3, .int x3_2), (0, .ref (a 7 99)), (1, .int x1), (2, .int x2), (4, .int x4), (5, .int x5)]) hx hb dX7_changes_105 hl (k := 3) rfl (by rw [ex3_2]; rfl) (by decide) rfl (fun ls hl => ?_)
    refine lv_goto (tgt := 31) hx hb dX7_changes_108 (by decide) ?_
    exact hJ31 _ _ _ _ _ _ _ hv Y (lv_sub hl [1, 2, 3, 0] rfl)
  · have hv := hv.2 hc
    refine lv_iload_n hx hb dX7_changes_62 rfl (lv_at hl 2 rfl) ?_
    refine lv_iload hx hb dX7_changes_63 (lv_at hl 5 rfl) ?_
    refine lv_ishr hx hb dX7_changes_65 ?_
    refine lv_iconst (v := 1) hx hb dX7_changes_66 (by decide) ?_
    refine lv_iand hx hb dX7_changes_67 ?_
    refine lv_if_ne (tgt := 86) hx hb dX7_changes_68 (by decide) (fun hc => ?_) (fun hc => ?_)
    · have hv := hv.2 hc
      obtain ⟨x5_3, ex5_3, hv⟩ := z_nv hv
      refine lv_iinc (v := x5_3) (lv' := [(5, .int x5_3), (0, .ref (a 7 99)), (1, .int x1), (2, .int x2), (3, .int x3), (4, .int x4)]) hx hb dX7_changes_86 hl (k := 5) rfl (by rw [ex5_3]; rfl) (by decide) rfl (fun ls hl => ?_)
      refine lv_goto (tgt := 53) hx hb dX7_changes_89 (by decide) ?_
      exact hJ53 _ _ _ _ _ _ _ _ _ hv Y (lv_sub hl [1, 2, 3, 4, 5, 0] rfl)
    · have hv := hv.1 hc
      refine lv_iload hx hb dX7_changes_71 (lv_at hl 4 rfl) ?_
      refine lv_aload_n hx hb dX7_changes_73 rfl (lv_at hl 0 rfl) ?_
      refine lv_iload_n hx hb dX7_changes_74 rfl (lv_at hl 2 rfl) ?_
      refine lv_iload_n hx hb dX7_changes_75 rfl (lv_at hl 3 rfl) ?_
      refine lv_iload hx hb dX7_changes_76 (lv_at hl 5 rfl) ?_
      refine z_callVi C Y (c_X7_next l hv) (zFr.self _ _) (cwV 3 hts gX7_changes_X7_next rfl rfl rfl (by decide +kernel) ⟨(Nat.le_of_ble_eq_true rfl), (Nat.le_of_ble_eq_true rfl)⟩) (ge7_7 ..) rfl rfl rfl hl.1 rfl (Nat.le_of_ble_eq_true rfl) dX7_changes_78 ⟨Nat.zero_le _, Nat.zero_le _⟩ (fun r_5 u7_4 H locs Y hv => ?_)
      refine z_mmin C hl.1 mm_X7_changes_min (Nat.le_of_ble_eq_true rfl) (Nat.le_of_ble_eq_true rfl) (Nat.zero_le _) (Nat.zero_le _) dX7_changes_81 ?_
      refine z_topi hv (fun x4_6 ex4_6 hv => ?_)
      refine lv_istore (lv' := [(4, .int x4_6), (0, .ref (a 7 99)), (1, .int x1), (2, .int x2), (3, .int x3), (5, .int x5)]) hx hb dX7_changes_84 hl (by decide) rfl (fun ls hl => ?_)
      obtain ⟨x5_7, ex5_7, hv⟩ := z_nv hv
      refine lv_iinc (v := x5_7) (lv' := [(5, .int x5_7), (4, .int x4_6), (0, .ref (a 7 99)), (1, .int x1), (2, .int x2), (3, .int x3)]) hx hb dX7_changes_86 hl (k := 5) rfl (by rw [ex5_7]; rfl) (by decide) rfl (fun ls hl => ?_)
      refine lv_goto (tgt := 53) hx hb dX7_changes_89 (by decide) ?_
      exact hJ53 _ _ _ _ _ _ _ _ _ hv Y (lv_sub hl [2, 3, 4, 5, 1, 0] rfl)

def wp_X7_changes_144 (J25 : Int32 → Int32 → zSt → Prop) (J31 : Int32 → Int32 → Int32 → zSt → Prop) (J53 : Int32 → Int32 → Int32 → Int32 → Int32 → zSt → Prop) (J144 : Int32 → Int32 → Int32 → Int32 → zSt → Prop) (J156 : Int32 → Int32 → Int32 → Int32 → Int32 → Int32 → zSt → Prop) (Q1 : Int32 → zSt → Prop) (x1 : Int32) (x2 : Int32) (x3 : Int32) (x4 : Int32) (u7 : zSt) : Prop :=
  (x1 ≤ x4 → ∀ u7_1 : zSt, u7_1 = zI u7 40 x2 → ∀ u7_2 : zSt, u7_2 = zI u7_1 39 0 → Q1 x3 u7_2) ∧ (¬ x1 ≤ x4 → ∀ x5_3 : Int32, x5_3 = (-1) → ∀ x6_4 : Int32, x6_4 = 0 → J156 x1 x2 x3 x4 x5_3 x6_4 u7)

set_option maxHeartbeats 4000000 in
set_option maxRecDepth 100000 in
theorem bk_X7_changes_144 {a : Nat → Nat → Nat} {J25 : Int32 → Int32 → zSt → Prop} {J31 : Int32 → Int32 → Int32 → zSt → Prop} {J53 : Int32 → Int32 → Int32 → Int32 → Int32 → zSt → Prop} {J144 : Int32 → Int32 → Int32 → Int32 → zSt → Prop} {J156 : Int32 → Int32 → Int32 → Int32 → Int32 → Int32 → zSt → Prop} {Q1 : Int32 → zSt → Prop} {x1 : Int32} {x2 : Int32} {x3 : Int32} {x4 : Int32} {u7 : zSt} (C : zCx p s m args c cX7_changes 7 RX7 wsX7_changes D cI cZ cJ A) (Y : zDy D A s.heap (k7 a cI cZ u7) H locs) (hl : lv_has ls 7 [(0, .ref (a 7 99)), (1, .int x1), (2, .int x2), (3, .int x3), (4, .int x4)]) (hret : ∀ {pc : Nat} {H : Heap} {locs : List Loc} {ls : Array Slot} {r : Int32} {u : zSt}, zDy D A s.heap ((fun u : zSt => k7 a cI cZ u) u) H locs → Q1 r u → decode cX7_changes pc = .ok (.ireturn, 1) → W p l e ({ frames := 2, cells := 0, slots := 0, locals := 45 } : Room) s m args below meth c H locs 0 0 Q (F0 m pc ls [.int r])) (hJ25 : ∀ (x1 : Int32) (x2 : Int32) (u7 : zSt) (H : Heap) (locs : List Loc) (ls : Array Slot), J25 x1 x2 u7 → zDy D A s.heap (k7 a cI cZ u7) H locs → lv_has ls 7 [(0, .ref (a 7 99)), (1, .int x1), (2, .int x2)] → W p l e ({ frames := 2, cells := 0, slots := 0, locals := 45 } : Room) s m args below meth c H locs 0 0 Q (F0 m 25 ls [])) (hJ31 : ∀ (x1 : Int32) (x2 : Int32) (x3 : Int32) (u7 : zSt) (H : Heap) (locs : List Loc) (ls : Array Slot), J31 x1 x2 x3 u7 → zDy D A s.heap (k7 a cI cZ u7) H locs → lv_has ls 7 [(0, .ref (a 7 99)), (1, .int x1), (2, .int x2), (3, .int x3)] → W p l e ({ frames := 2, cells := 0, slots := 0, locals := 45 } : Room) s m args below meth c H locs 0 0 Q (F0 m 31 ls [])) (hJ53 : ∀ (x1 : Int32) (x2 : Int32) (x3 : Int32) (x4 : Int32) (x5 : Int32) (u7 : zSt) (H : Heap) (locs : List Loc) (ls : Array Slot), J53 x1 x2 x3 x4 x5 u7 → zDy D A s.heap (k7 a cI cZ u7) H locs → lv_has ls 7 [(0, .ref (a 7 99)), (1, .int x1), (2, .int x2), (3, .int x3), (4, .int x4), (5, .int x5)] → W p l e ({ frames := 2, cells := 0, slots := 0, locals := 45 } : Room) s m args below meth c H locs 0 0 Q (F0 m 53 ls [])) (hJ144 : ∀ (x1 : Int32) (x2 : Int32) (x3 : Int32) (x4 : Int32) (u7 : zSt) (H : Heap) (locs : List Loc) (ls : Array Slot), J144 x1 x2 x3 x4 u7 → zDy D A s.heap (k7 a cI cZ u7) H locs → lv_has ls 7 [(0, .ref (a 7 99)), (1, .int x1), (2, .int x2), (3, .int x3), (4, .int x4)] → W p l e ({ frames := 2, cells := 0, slots := 0, locals := 45 } : Room) s m args below meth c H locs 0 0 Q (F0 m 144 ls [])) (hJ156 : ∀ (x1 : Int32) (x2 : Int32) (x3 : Int32) (x4 : Int32) (x5 : Int32) (x6 : Int32) (u7 : zSt) (H : Heap) (locs : List Loc) (ls : Array Slot), J156 x1 x2 x3 x4 x5 x6 u7 → zDy D A s.heap (k7 a cI cZ u7) H locs → lv_has ls 7 [(0, .ref (a 7 99)), (1, .int x1), (2, .int x2), (3, .int x3), (4, .int x4), (5, .int x5), (6, .int x6)] → W p l e ({ frames := 2, cells := 0, slots := 0, locals := 45 } : Room) s m args below meth c H locs 0 0 Q (F0 m 156 ls [])) (hv : wp_X7_changes_144 J25 J31 J53 J144 J156 Q1 x1 x2 x3 x4 u7) : W p l e ({ frames := 2, cells := 0, slots := 0, locals := 45 } : Room) s m args below meth c H locs 0 0 Q (F0 m 144 ls []) := by
  unfold wp_X7_changes_144 at hv
  obtain ⟨hx, hb, hml, hown, hts, hK, hA⟩ := id C
  refine lv_iload hx hb dX7_changes_144 (lv_at hl 4 rfl) ?_
  refine lv_iload_n hx hb dX7_changes_146 rfl (lv_at hl 1 rfl) ?_
  refine lv_icmp_ge (tgt := 251) hx hb dX7_changes_147 (by decide) (fun hc => ?_) (fun hc => ?_)
  · have hv := hv.1 hc
    refine lv_aload_n hx hb dX7_changes_251 rfl (lv_at hl 0 rfl) ?_
    refine lv_iload_n hx hb dX7_changes_252 rfl (lv_at hl 2 rfl) ?_
    refine z_putI C Y (Cn := RX7) (T := TX7) (N := 42) in_X7_changes_7 rfl tyX7 tyX7_ok nmX7 (ge7_7 ..) 40 (by decide) fl_X7_changes_86 rfl (by decide +kernel) (Nat.le_of_ble_eq_true rfl) (si7_7_40 ..) dX7_changes_253 (fun H locs Y => ?_)
    obtain ⟨u7_1, eu7_1, Y, hv⟩ := z_nm (kf := fun z => (k7 a cI cZ z)) Y hv
    refine lv_aload_n hx hb dX7_changes_256 rfl (lv_at hl 0 rfl) ?_
    refine lv_iconst (v := 0) hx hb dX7_changes_257 (by decide) ?_
    refine z_putI C Y (Cn := RX7) (T := TX7) (N := 42) in_X7_changes_7 rfl tyX7 tyX7_ok nmX7 (ge7_7 ..) 39 (by decide) fl_X7_changes_199 rfl (by decide +kernel) (Nat.le_of_ble_eq_true rfl) (si7_7_39 ..) dX7_changes_258 (fun H locs Y => ?_)
    obtain ⟨u7_2, eu7_2, Y, hv⟩ := z_nm (kf := fun z => (k7 a cI cZ z)) Y hv
    refine lv_iload_n hx hb dX7_changes_261 rfl (lv_at hl 3 rfl) ?_
    exact hret Y hv dX7_changes_262
  · have hv := hv.2 hc
    refine lv_iconst (v := (-1)) hx hb dX7_changes_150 (by decide) ?_
    refine z_topi hv (fun x5_3 ex5_3 hv => ?_)
    refine lv_istore (lv' := [(5, .int x5_3), (0, .ref (a 7 99)), (1, .int x1), (2, .int x2), (3, .int x3), (4, .int x4)]) hx hb dX7_changes_151 hl (by decide) rfl (fun ls hl => ?_)
    refine lv_iconst (v := 0) hx hb dX7_changes_153 (by decide) ?_
    refine z_topi hv (fun x6_4 ex6_4 hv => ?_)
    refine lv_istore (lv' := [(6, .int x6_4), (5, .int x5_3), (0, .ref (a 7 99)), (1, .int x1), (2, .int x2), (3, .int x3), (4, .int x4)]) hx hb dX7_changes_154 hl (by decide) rfl (fun ls hl => ?_)
    exact hJ156 _ _ _ _ _ _ _ _ _ _ hv Y (lv_sub hl [2, 3, 4, 5, 6, 1, 0] rfl)

def wp_X7_changes_221 (J25 : Int32 → Int32 → zSt → Prop) (J31 : Int32 → Int32 → Int32 → zSt → Prop) (J53 : Int32 → Int32 → Int32 → Int32 → Int32 → zSt → Prop) (J144 : Int32 → Int32 → Int32 → Int32 → zSt → Prop) (J156 : Int32 → Int32 → Int32 → Int32 → Int32 → Int32 → zSt → Prop) (Q1 : Int32 → zSt → Prop) (x1 : Int32) (x2 : Int32) (x3 : Int32) (x4 : Int32) (x6 : Int32) (u7 : zSt) : Prop :=
  ∀ x5_1 : Int32, x5_1 = x6 → ∀ x6_2 : Int32, x6_2 = x6 + 1 → J156 x1 x2 x3 x4 x5_1 x6_2 u7

set_option maxHeartbeats 4000000 in
set_option maxRecDepth 100000 in
theorem bk_X7_changes_221 {a : Nat → Nat → Nat} {J25 : Int32 → Int32 → zSt → Prop} {J31 : Int32 → Int32 → Int32 → zSt → Prop} {J53 : Int32 → Int32 → Int32 → Int32 → Int32 → zSt → Prop} {J144 : Int32 → Int32 → Int32 → Int32 → zSt → Prop} {J156 : Int32 → Int32 → Int32 → Int32 → Int32 → Int32 → zSt → Prop} {Q1 : Int32 → zSt → Prop} {x1 : Int32} {x2 : Int32} {x3 : Int32} {x4 : Int32} {x6 : Int32} {u7 : zSt} (C : zCx p s m args c cX7_changes 7 RX7 wsX7_changes D cI cZ cJ A) (Y : zDy D A s.heap (k7 a cI cZ u7) H locs) (hl : lv_has ls 7 [(0, .ref (a 7 99)), (1, .int x1), (2, .int x2), (3, .int x3), (4, .int x4), (6, .int x6)]) (hret : ∀ {pc : Nat} {H : Heap} {locs : List Loc} {ls : Array Slot} {r : Int32} {u : zSt}, zDy D A s.heap ((fun u : zSt => k7 a cI cZ u) u) H locs → Q1 r u → decode cX7_changes pc = .ok (.ireturn, 1) → W p l e ({ frames := 2, cells := 0, slots := 0, locals := 45 } : Room) s m args below meth c H locs 0 0 Q (F0 m pc ls [.int r])) (hJ25 : ∀ (x1 : Int32) (x2 : Int32) (u7 : zSt) (H : Heap) (locs : List Loc) (ls : Array Slot), J25 x1 x2 u7 → zDy D A s.heap (k7 a cI cZ u7) H locs → lv_has ls 7 [(0, .ref (a 7 99)), (1, .int x1), (2, .int x2)] → W p l e ({ frames := 2, cells := 0, slots := 0, locals := 45 } : Room) s m args below meth c H locs 0 0 Q (F0 m 25 ls [])) (hJ31 : ∀ (x1 : Int32) (x2 : Int32) (x3 : Int32) (u7 : zSt) (H : Heap) (locs : List Loc) (ls : Array Slot), J31 x1 x2 x3 u7 → zDy D A s.heap (k7 a cI cZ u7) H locs → lv_has ls 7 [(0, .ref (a 7 99)), (1, .int x1), (2, .int x2), (3, .int x3)] → W p l e ({ frames := 2, cells := 0, slots := 0, locals := 45 } : Room) s m args below meth c H locs 0 0 Q (F0 m 31 ls [])) (hJ53 : ∀ (x1 : Int32) (x2 : Int32) (x3 : Int32) (x4 : Int32) (x5 : Int32) (u7 : zSt) (H : Heap) (locs : List Loc) (ls : Array Slot), J53 x1 x2 x3 x4 x5 u7 → zDy D A s.heap (k7 a cI cZ u7) H locs → lv_has ls 7 [(0, .ref (a 7 99)), (1, .int x1), (2, .int x2), (3, .int x3), (4, .int x4), (5, .int x5)] → W p l e ({ frames := 2, cells := 0, slots := 0, locals := 45 } : Room) s m args below meth c H locs 0 0 Q (F0 m 53 ls [])) (hJ144 : ∀ (x1 : Int32) (x2 : Int32) (x3 : Int32) (x4 : Int32) (u7 : zSt) (H : Heap) (locs : List Loc) (ls : Array Slot), J144 x1 x2 x3 x4 u7 → zDy D A s.heap (k7 a cI cZ u7) H locs → lv_has ls 7 [(0, .ref (a 7 99)), (1, .int x1), (2, .int x2), (3, .int x3), (4, .int x4)] → W p l e ({ frames := 2, cells := 0, slots := 0, locals := 45 } : Room) s m args below meth c H locs 0 0 Q (F0 m 144 ls [])) (hJ156 : ∀ (x1 : Int32) (x2 : Int32) (x3 : Int32) (x4 : Int32) (x5 : Int32) (x6 : Int32) (u7 : zSt) (H : Heap) (locs : List Loc) (ls : Array Slot), J156 x1 x2 x3 x4 x5 x6 u7 → zDy D A s.heap (k7 a cI cZ u7) H locs → lv_has ls 7 [(0, .ref (a 7 99)), (1, .int x1), (2, .int x2), (3, .int x3), (4, .int x4), (5, .int x5), (6, .int x6)] → W p l e ({ frames := 2, cells := 0, slots := 0, locals := 45 } : Room) s m args below meth c H locs 0 0 Q (F0 m 156 ls [])) (hv : wp_X7_changes_221 J25 J31 J53 J144 J156 Q1 x1 x2 x3 x4 x6 u7) : W p l e ({ frames := 2, cells := 0, slots := 0, locals := 45 } : Room) s m args below meth c H locs 0 0 Q (F0 m 221 ls []) := by
  unfold wp_X7_changes_221 at hv
  obtain ⟨hx, hb, hml, hown, hts, hK, hA⟩ := id C
  refine lv_iload hx hb dX7_changes_221 (lv_at hl 5 rfl) ?_
  refine z_topi hv (fun x5_1 ex5_1 hv => ?_)
  refine lv_istore (lv' := [(5, .int x5_1), (0, .ref (a 7 99)), (1, .int x1), (2, .int x2), (3, .int x3), (4, .int x4), (6, .int x6)]) hx hb dX7_changes_223 hl (by decide) rfl (fun ls hl => ?_)
  obtain ⟨x6_2, ex6_2, hv⟩ := z_nv hv
  refine lv_iinc (v := x6_2) (lv' := [(6, .int x6_2), (5, .int x5_1), (0, .ref (a 7 99)), (1, .int x1), (2, .int x2), (3, .int x3), (4, .int x4)]) hx hb dX7_changes_225 hl (k := 6) rfl (by rw [ex6_2]; rfl) (by decide) rfl (fun ls hl => ?_)
  refine lv_goto (tgt := 156) hx hb dX7_changes_228 (by decide) ?_
  exact hJ156 _ _ _ _ _ _ _ _ _ _ hv Y (lv_sub hl [2, 3, 4, 5, 6, 1, 0] rfl)

def wp_X7_changes_156 (J25 : Int32 → Int32 → zSt → Prop) (J31 : Int32 → Int32 → Int32 → zSt → Prop) (J53 : Int32 → Int32 → Int32 → Int32 → Int32 → zSt → Prop) (J144 : Int32 → Int32 → Int32 → Int32 → zSt → Prop) (J156 : Int32 → Int32 → Int32 → Int32 → Int32 → Int32 → zSt → Prop) (Q1 : Int32 → zSt → Prop) (x1 : Int32) (x2 : Int32) (x3 : Int32) (x4 : Int32) (x5 : Int32) (x6 : Int32) (u7 : zSt) : Prop :=
  ((u7.1 39) ≤ x6 → ∀ x4_1 : Int32, x4_1 = (x4 ||| ((1 : Int32) <<< ((x5 : Int32) &&& 31))) → vp_in x5 10 ∧ (∀ x2_2 : Int32, x2_2 = (u7.2 38 x5.toNatClampNeg) → J144 x1 x2_2 x3 x4_1 u7)) ∧ (¬ (u7.1 39) ≤ x6 → ((((x4 : Int32) >>> ((x6 : Int32) &&& 31)) &&& 1) = (0 : Int32) → TX7_next (fun (r_5 : Int32) (u7_4 : zSt) => vp_in ((x4 * 7) + x2) 7168 ∧ ((r_5 = (u7_4.2 41 ((x4 * 7) + x2).toNatClampNeg) → (x5 < (0 : Int32) → wp_X7_changes_221 J25 J31 J53 J144 J156 Q1 x1 x2 x3 x4 x6 u7_4) ∧ (¬ x5 < (0 : Int32) → vp_in x6 10 ∧ (vp_in x5 10 ∧ (((u7_4.2 38 x5.toNatClampNeg) ≤ (u7_4.2 38 x6.toNatClampNeg) → ∀ x6_7 : Int32, x6_7 = x6 + 1 → J156 x1 x2 x3 x4 x5 x6_7 u7_4) ∧ (¬ (u7_4.2 38 x5.toNatClampNeg) ≤ (u7_4.2 38 x6.toNatClampNeg) → wp_X7_changes_221 J25 J31 J53 J144 J156 Q1 x1 x2 x3 x4 x6 u7_4))))) ∧ (¬ r_5 = (u7_4.2 41 ((x4 * 7) + x2).toNatClampNeg) → ∀ x6_6 : Int32, x6_6 = x6 + 1 → J156 x1 x2 x3 x4 x5 x6_6 u7_4))) x4 x2 x6 u7) ∧ (¬ (((x4 : Int32) >>> ((x6 : Int32) &&& 31)) &&& 1) = (0 : Int32) → ∀ x6_3 : Int32, x6_3 = x6 + 1 → J156 x1 x2 x3 x4 x5 x6_3 u7))

set_option maxHeartbeats 4000000 in
set_option maxRecDepth 100000 in
theorem bk_X7_changes_156 {a : Nat → Nat → Nat} {J25 : Int32 → Int32 → zSt → Prop} {J31 : Int32 → Int32 → Int32 → zSt → Prop} {J53 : Int32 → Int32 → Int32 → Int32 → Int32 → zSt → Prop} {J144 : Int32 → Int32 → Int32 → Int32 → zSt → Prop} {J156 : Int32 → Int32 → Int32 → Int32 → Int32 → Int32 → zSt → Prop} {Q1 : Int32 → zSt → Prop} {x1 : Int32} {x2 : Int32} {x3 : Int32} {x4 : Int32} {x5 : Int32} {x6 : Int32} {u7 : zSt} (C : zCx p s m args c cX7_changes 7 RX7 wsX7_changes D cI cZ cJ A) (Y : zDy D A s.heap (k7 a cI cZ u7) H locs) (hl : lv_has ls 7 [(0, .ref (a 7 99)), (1, .int x1), (2, .int x2), (3, .int x3), (4, .int x4), (5, .int x5), (6, .int x6)]) (hret : ∀ {pc : Nat} {H : Heap} {locs : List Loc} {ls : Array Slot} {r : Int32} {u : zSt}, zDy D A s.heap ((fun u : zSt => k7 a cI cZ u) u) H locs → Q1 r u → decode cX7_changes pc = .ok (.ireturn, 1) → W p l e ({ frames := 2, cells := 0, slots := 0, locals := 45 } : Room) s m args below meth c H locs 0 0 Q (F0 m pc ls [.int r])) (hJ25 : ∀ (x1 : Int32) (x2 : Int32) (u7 : zSt) (H : Heap) (locs : List Loc) (ls : Array Slot), J25 x1 x2 u7 → zDy D A s.heap (k7 a cI cZ u7) H locs → lv_has ls 7 [(0, .ref (a 7 99)), (1, .int x1), (2, .int x2)] → W p l e ({ frames := 2, cells := 0, slots := 0, locals := 45 } : Room) s m args below meth c H locs 0 0 Q (F0 m 25 ls [])) (hJ31 : ∀ (x1 : Int32) (x2 : Int32) (x3 : Int32) (u7 : zSt) (H : Heap) (locs : List Loc) (ls : Array Slot), J31 x1 x2 x3 u7 → zDy D A s.heap (k7 a cI cZ u7) H locs → lv_has ls 7 [(0, .ref (a 7 99)), (1, .int x1), (2, .int x2), (3, .int x3)] → W p l e ({ frames := 2, cells := 0, slots := 0, locals := 45 } : Room) s m args below meth c H locs 0 0 Q (F0 m 31 ls [])) (hJ53 : ∀ (x1 : Int32) (x2 : Int32) (x3 : Int32) (x4 : Int32) (x5 : Int32) (u7 : zSt) (H : Heap) (locs : List Loc) (ls : Array Slot), J53 x1 x2 x3 x4 x5 u7 → zDy D A s.heap (k7 a cI cZ u7) H locs → lv_has ls 7 [(0, .ref (a 7 99)), (1, .int x1), (2, .int x2), (3, .int x3), (4, .int x4), (5, .int x5)] → W p l e ({ frames := 2, cells := 0, slots := 0, locals := 45 } : Room) s m args below meth c H locs 0 0 Q (F0 m 53 ls [])) (hJ144 : ∀ (x1 : Int32) (x2 : Int32) (x3 : Int32) (x4 : Int32) (u7 : zSt) (H : Heap) (locs : List Loc) (ls : Array Slot), J144 x1 x2 x3 x4 u7 → zDy D A s.heap (k7 a cI cZ u7) H locs → lv_has ls 7 [(0, .ref (a 7 99)), (1, .int x1), (2, .int x2), (3, .int x3), (4, .int x4)] → W p l e ({ frames := 2, cells := 0, slots := 0, locals := 45 } : Room) s m args below meth c H locs 0 0 Q (F0 m 144 ls [])) (hJ156 : ∀ (x1 : Int32) (x2 : Int32) (x3 : Int32) (x4 : Int32) (x5 : Int32) (x6 : Int32) (u7 : zSt) (H : Heap) (locs : List Loc) (ls : Array Slot), J156 x1 x2 x3 x4 x5 x6 u7 → zDy D A s.heap (k7 a cI cZ u7) H locs → lv_has ls 7 [(0, .ref (a 7 99)), (1, .int x1), (2, .int x2), (3, .int x3), (4, .int x4), (5, .int x5), (6, .int x6)] → W p l e ({ frames := 2, cells := 0, slots := 0, locals := 45 } : Room) s m args below meth c H locs 0 0 Q (F0 m 156 ls [])) (hv : wp_X7_changes_156 J25 J31 J53 J144 J156 Q1 x1 x2 x3 x4 x5 x6 u7) : W p l e ({ frames := 2, cells := 0, slots := 0, locals := 45 } : Room) s m args below meth c H locs 0 0 Q (F0 m 156 ls []) := by
  unfold wp_X7_changes_156 at hv
  obtain ⟨hx, hb, hml, hown, hts, hK, hA⟩ := id C
  refine lv_iload hx hb dX7_changes_156 (lv_at hl 6 rfl) ?_
  refine lv_aload_n hx hb dX7_changes_158 rfl (lv_at hl 0 rfl) ?_
  refine z_get C Y (Cn := RX7) (T := TX7) (N := 42) in_X7_changes_7 rfl (ge7_7 ..) 39 (by decide) fl_X7_changes_199 rfl dX7_changes_159 ?_
  refine lv_icmp_ge (tgt := 231) hx hb dX7_changes_162 (by decide) (fun hc => ?_) (fun hc => ?_)
  · have hv := hv.1 hc
    refine lv_iload hx hb dX7_changes_231 (lv_at hl 4 rfl) ?_
    refine lv_iconst (v := 1) hx hb dX7_changes_233 (by decide) ?_
    refine lv_iload hx hb dX7_changes_234 (lv_at hl 5 rfl) ?_
    refine lv_ishl hx hb dX7_changes_236 ?_
    refine lv_ior hx hb dX7_changes_237 ?_
    refine z_topi hv (fun x4_1 ex4_1 hv => ?_)
    refine lv_istore (lv' := [(4, .int x4_1), (0, .ref (a 7 99)), (1, .int x1), (2, .int x2), (3, .int x3), (5, .int x5), (6, .int x6)]) hx hb dX7_changes_238 hl (by decide) rfl (fun ls hl => ?_)
    refine lv_aload_n hx hb dX7_changes_240 rfl (lv_at hl 1 rfl) ?_
    refine z_get C Y (Cn := RX7) (T := TX7) (N := 42) in_X7_changes_7 rfl (ge7_7 ..) 38 (by decide) fl_X7_changes_83 rfl dX7_changes_241 ?_
    refine lv_iload hx hb dX7_changes_244 (lv_at hl 5 rfl) ?_
    obtain ⟨hi, hv⟩ := hv
    refine z_ldI C Y (pa7_7_38 ..) hi dX7_changes_246 ?_
    refine z_topi hv (fun x2_2 ex2_2 hv => ?_)
    refine lv_istore_n (lv' := [(2, .int x2_2), (4, .int x4_1), (0, .ref (a 7 99)), (1, .int x1), (3, .int x3), (5, .int x5), (6, .int x6)]) hx hb dX7_changes_247 rfl hl (by decide) rfl (fun ls hl => ?_)
    refine lv_goto (tgt := 144) hx hb dX7_changes_248 (by decide) ?_
    exact hJ144 _ _ _ _ _ _ _ _ hv Y (lv_sub hl [2, 3, 0, 4, 1] rfl)
  · have hv := hv.2 hc
    refine lv_iload hx hb dX7_changes_165 (lv_at hl 4 rfl) ?_
    refine lv_iload hx hb dX7_changes_167 (lv_at hl 6 rfl) ?_
    refine lv_ishr hx hb dX7_changes_169 ?_
    refine lv_iconst (v := 1) hx hb dX7_changes_170 (by decide) ?_
    refine lv_iand hx hb dX7_changes_171 ?_
    refine lv_if_ne (tgt := 225) hx hb dX7_changes_172 (by decide) (fun hc => ?_) (fun hc => ?_)
    · have hv := hv.2 hc
      obtain ⟨x6_3, ex6_3, hv⟩ := z_nv hv
      refine lv_iinc (v := x6_3) (lv' := [(6, .int x6_3), (0, .ref (a 7 99)), (1, .int x1), (2, .int x2), (3, .int x3), (4, .int x4), (5, .int x5)]) hx hb dX7_changes_225 hl (k := 6) rfl (by rw [ex6_3]; rfl) (by decide) rfl (fun ls hl => ?_)
      refine lv_goto (tgt := 156) hx hb dX7_changes_228 (by decide) ?_
      exact hJ156 _ _ _ _ _ _ _ _ _ _ hv Y (lv_sub hl [1, 2, 3, 4, 5, 6, 0] rfl)
    · have hv := hv.1 hc
      refine lv_aload_n hx hb dX7_changes_175 rfl (lv_at hl 0 rfl) ?_
      refine lv_iload hx hb dX7_changes_176 (lv_at hl 4 rfl) ?_
      refine lv_iload_n hx hb dX7_changes_178 rfl (lv_at hl 2 rfl) ?_
      refine lv_iload hx hb dX7_changes_179 (lv_at hl 6 rfl) ?_
      refine z_callVi C Y (c_X7_next l hv) (zFr.self _ _) (cwV 3 hts gX7_changes_X7_next rfl rfl rfl (by decide +kernel) ⟨(Nat.le_of_ble_eq_true rfl), (Nat.le_of_ble_eq_true rfl)⟩) (ge7_7 ..) rfl rfl rfl hl.1 rfl (Nat.le_of_ble_eq_true rfl) dX7_changes_181 ⟨Nat.zero_le _, Nat.zero_le _⟩ (fun r_5 u7_4 H locs Y hv => ?_)
      refine lv_aload_n hx hb dX7_changes_184 rfl (lv_at hl 0 rfl) ?_
      refine z_get C Y (Cn := RX7) (T := TX7) (N := 42) in_X7_changes_7 rfl (ge7_7 ..) 41 (by decide) fl_X7_changes_90 rfl dX7_changes_185 ?_
      refine lv_iload hx hb dX7_changes_188 (lv_at hl 4 rfl) ?_
      refine lv_bipush (v := 7) hx hb dX7_changes_190 (by decide) ?_
      refine lv_imul hx hb dX7_changes_192 ?_
      refine lv_iload_n hx hb dX7_changes_193 rfl (lv_at hl 2 rfl) ?_
      refine lv_iadd hx hb dX7_changes_194 ?_
      obtain ⟨hi, hv⟩ := hv
      refine z_ldI C Y (pa7_7_41 ..) hi dX7_changes_195 ?_
      refine lv_icmp_ne (tgt := 225) hx hb dX7_changes_196 (by decide) (fun hc => ?_) (fun hc => ?_)
      · have hv := hv.2 hc
        obtain ⟨x6_6, ex6_6, hv⟩ := z_nv hv
        refine lv_iinc (v := x6_6) (lv' := [(6, .int x6_6), (0, .ref (a 7 99)), (1, .int x1), (2, .int x2), (3, .int x3), (4, .int x4), (5, .int x5)]) hx hb dX7_changes_225 hl (k := 6) rfl (by rw [ex6_6]; rfl) (by decide) rfl (fun ls hl => ?_)
        refine lv_goto (tgt := 156) hx hb dX7_changes_228 (by decide) ?_
        exact hJ156 _ _ _ _ _ _ _ _ _ _ hv Y (lv_sub hl [1, 2, 3, 4, 5, 6, 0] rfl)
      · have hv := hv.1 hc
        refine lv_iload hx hb dX7_changes_199 (lv_at hl 5 rfl) ?_
        refine lv_if_lt (tgt := 221) hx hb dX7_changes_201 (by decide) (fun hc => ?_) (fun hc => ?_)
        · have hv := hv.1 hc
          exact bk_X7_changes_221 C Y (lv_sub hl [0, 1, 2, 3, 4, 6] rfl) hret hJ25 hJ31 hJ53 hJ144 hJ156 hv
        · have hv := hv.2 hc
          refine lv_aload_n hx hb dX7_changes_204 rfl (lv_at hl 0 rfl) ?_
          refine z_get C Y (Cn := RX7) (T := TX7) (N := 42) in_X7_changes_7 rfl (ge7_7 ..) 38 (by decide) fl_X7_changes_83 rfl dX7_changes_205 ?_
          refine lv_iload hx hb dX7_changes_208 (lv_at hl 6 rfl) ?_
          obtain ⟨hi, hv⟩ := hv
          refine z_ldI C Y (pa7_7_38 ..) hi dX7_changes_210 ?_
          refine lv_aload_n hx hb dX7_changes_211 rfl (lv_at hl 0 rfl) ?_
          refine z_get C Y (Cn := RX7) (T := TX7) (N := 42) in_X7_changes_7 rfl (ge7_7 ..) 38 (by decide) fl_X7_changes_83 rfl dX7_changes_212 ?_
          refine lv_iload hx hb dX7_changes_215 (lv_at hl 5 rfl) ?_
          obtain ⟨hi, hv⟩ := hv
          refine z_ldI C Y (pa7_7_38 ..) hi dX7_changes_217 ?_
          refine lv_icmp_ge (tgt := 225) hx hb dX7_changes_218 (by decide) (fun hc => ?_) (fun hc => ?_)
          · have hv := hv.1 hc
            obtain ⟨x6_7, ex6_7, hv⟩ := z_nv hv
            refine lv_iinc (v := x6_7) (lv' := [(6, .int x6_7), (0, .ref (a 7 99)), (1, .int x1), (2, .int x2), (3, .int x3), (4, .int x4), (5, .int x5)]) hx hb dX7_changes_225 hl (k := 6) rfl (by rw [ex6_7]; rfl) (by decide) rfl (fun ls hl => ?_)
            refine lv_goto (tgt := 156) hx hb dX7_changes_228 (by decide) ?_
            exact hJ156 _ _ _ _ _ _ _ _ _ _ hv Y (lv_sub hl [1, 2, 3, 4, 5, 6, 0] rfl)
          · have hv := hv.2 hc
            exact bk_X7_changes_221 C Y (lv_sub hl [0, 1, 2, 3, 4, 6] rfl) hret hJ25 hJ31 hJ53 hJ144 hJ156 hv

end
set_option maxHeartbeats 4000000 in
set_option maxRecDepth 100000 in
theorem k_X7_changes (l : Launch) {D : va_G} {cI cZ cJ : ClassId} {a : Nat → Nat → Nat} {Q1 : Int32 → zSt → Prop} {u7 : zSt} (I25 : Nat → Int32 → Int32 → zSt → Prop) (I31 : Nat → Int32 → Int32 → Int32 → zSt → Prop) (I53 : Nat → Int32 → Int32 → Int32 → Int32 → Int32 → zSt → Prop) (I144 : Nat → Int32 → Int32 → Int32 → Int32 → zSt → Prop) (I156 : Nat → Int32 → Int32 → Int32 → Int32 → Int32 → Int32 → zSt → Prop)
    (hv : wp_X7_changes_0 (fun x1 x2 u7 => ∃ n : Nat, I25 n x1 x2 u7) (fun x1 x2 x3 u7 => ∃ n : Nat, I31 n x1 x2 x3 u7) (fun x1 x2 x3 x4 x5 u7 => ∃ n : Nat, I53 n x1 x2 x3 x4 x5 u7) (fun x1 x2 x3 x4 u7 => ∃ n : Nat, I144 n x1 x2 x3 x4 u7) (fun x1 x2 x3 x4 x5 x6 u7 => ∃ n : Nat, I156 n x1 x2 x3 x4 x5 x6 u7) Q1  u7)
    (hI25 : ∀ (n : Nat) (x1 : Int32) (x2 : Int32) (u7 : zSt), I25 n x1 x2 u7 → wp_X7_changes_25 (fun x1 x2 u7 => ∃ k : Nat, k < n ∧ I25 k x1 x2 u7) (fun x1 x2 x3 u7 => ∃ k : Nat, k < n ∧ I31 k x1 x2 x3 u7) (fun x1 x2 x3 x4 x5 u7 => ∃ k : Nat, k < n ∧ I53 k x1 x2 x3 x4 x5 u7) (fun x1 x2 x3 x4 u7 => ∃ k : Nat, k < n ∧ I144 k x1 x2 x3 x4 u7) (fun x1 x2 x3 x4 x5 x6 u7 => ∃ k : Nat, k < n ∧ I156 k x1 x2 x3 x4 x5 x6 u7) Q1 x1 x2 u7)
    (hI31 : ∀ (n : Nat) (x1 : Int32) (x2 : Int32) (x3 : Int32) (u7 : zSt), I31 n x1 x2 x3 u7 → wp_X7_changes_31 (fun x1 x2 u7 => ∃ k : Nat, k < n ∧ I25 k x1 x2 u7) (fun x1 x2 x3 u7 => ∃ k : Nat, k < n ∧ I31 k x1 x2 x3 u7) (fun x1 x2 x3 x4 x5 u7 => ∃ k : Nat, k < n ∧ I53 k x1 x2 x3 x4 x5 u7) (fun x1 x2 x3 x4 u7 => ∃ k : Nat, k < n ∧ I144 k x1 x2 x3 x4 u7) (fun x1 x2 x3 x4 x5 x6 u7 => ∃ k : Nat, k < n ∧ I156 k x1 x2 x3 x4 x5 x6 u7) Q1 x1 x2 x3 u7)
    (hI53 : ∀ (n : Nat) (x1 : Int32) (x2 : Int32) (x3 : Int32) (x4 : Int32) (x5 : Int32) (u7 : zSt), I53 n x1 x2 x3 x4 x5 u7 → wp_X7_changes_53 (fun x1 x2 u7 => ∃ k : Nat, k < n ∧ I25 k x1 x2 u7) (fun x1 x2 x3 u7 => ∃ k : Nat, k < n ∧ I31 k x1 x2 x3 u7) (fun x1 x2 x3 x4 x5 u7 => ∃ k : Nat, k < n ∧ I53 k x1 x2 x3 x4 x5 u7) (fun x1 x2 x3 x4 u7 => ∃ k : Nat, k < n ∧ I144 k x1 x2 x3 x4 u7) (fun x1 x2 x3 x4 x5 x6 u7 => ∃ k : Nat, k < n ∧ I156 k x1 x2 x3 x4 x5 x6 u7) Q1 x1 x2 x3 x4 x5 u7)
    (hI144 : ∀ (n : Nat) (x1 : Int32) (x2 : Int32) (x3 : Int32) (x4 : Int32) (u7 : zSt), I144 n x1 x2 x3 x4 u7 → wp_X7_changes_144 (fun x1 x2 u7 => ∃ k : Nat, k < n ∧ I25 k x1 x2 u7) (fun x1 x2 x3 u7 => ∃ k : Nat, k < n ∧ I31 k x1 x2 x3 u7) (fun x1 x2 x3 x4 x5 u7 => ∃ k : Nat, k < n ∧ I53 k x1 x2 x3 x4 x5 u7) (fun x1 x2 x3 x4 u7 => ∃ k : Nat, k < n ∧ I144 k x1 x2 x3 x4 u7) (fun x1 x2 x3 x4 x5 x6 u7 => ∃ k : Nat, k < n ∧ I156 k x1 x2 x3 x4 x5 x6 u7) Q1 x1 x2 x3 x4 u7)
    (hI156 : ∀ (n : Nat) (x1 : Int32) (x2 : Int32) (x3 : Int32) (x4 : Int32) (x5 : Int32) (x6 : Int32) (u7 : zSt), I156 n x1 x2 x3 x4 x5 x6 u7 → wp_X7_changes_156 (fun x1 x2 u7 => ∃ k : Nat, k < n ∧ I25 k x1 x2 u7) (fun x1 x2 x3 u7 => ∃ k : Nat, k < n ∧ I31 k x1 x2 x3 u7) (fun x1 x2 x3 x4 x5 u7 => ∃ k : Nat, k < n ∧ I53 k x1 x2 x3 x4 x5 u7) (fun x1 x2 x3 x4 u7 => ∃ k : Nat, k < n ∧ I144 k x1 x2 x3 x4 u7) (fun x1 x2 x3 x4 x5 x6 u7 => ∃ k : Nat, k < n ∧ I156 k x1 x2 x3 x4 x5 x6 u7) Q1 x1 x2 x3 x4 x5 x6 u7) : zMI l yX7_changes wsX7_changes ({ frames := 2, cells := 0, slots := 0, locals := 45 } : Room) D cI cZ cJ [.ref (a 7 99)] (k7 a cI cZ u7) (fun u : zSt => k7 a cI cZ u) Q1 := by
  refine z_ofI (by decide) rfl rfl (Nat.le_of_ble_eq_true rfl) (@fun p e s m args below meth c A Q ls C Y hl hret => ?_)
  have key : ∀ n : Nat, (∀ (x1 : Int32) (x2 : Int32) (u7 : zSt) (H : Heap) (locs : List Loc) (ls : Array Slot), I25 n x1 x2 u7 → zDy D A s.heap (k7 a cI cZ u7) H locs → lv_has ls 7 [(0, .ref (a 7 99)), (1, .int x1), (2, .int x2)] → W p l e ({ frames := 2, cells := 0, slots := 0, locals := 45 } : Room) s m args below meth c H locs 0 0 Q (F0 m 25 ls [])) ∧ (∀ (x1 : Int32) (x2 : Int32) (x3 : Int32) (u7 : zSt) (H : Heap) (locs : List Loc) (ls : Array Slot), I31 n x1 x2 x3 u7 → zDy D A s.heap (k7 a cI cZ u7) H locs → lv_has ls 7 [(0, .ref (a 7 99)), (1, .int x1), (2, .int x2), (3, .int x3)] → W p l e ({ frames := 2, cells := 0, slots := 0, locals := 45 } : Room) s m args below meth c H locs 0 0 Q (F0 m 31 ls [])) ∧ (∀ (x1 : Int32) (x2 : Int32) (x3 : Int32) (x4 : Int32) (x5 : Int32) (u7 : zSt) (H : Heap) (locs : List Loc) (ls : Array Slot), I53 n x1 x2 x3 x4 x5 u7 → zDy D A s.heap (k7 a cI cZ u7) H locs → lv_has ls 7 [(0, .ref (a 7 99)), (1, .int x1), (2, .int x2), (3, .int x3), (4, .int x4), (5, .int x5)] → W p l e ({ frames := 2, cells := 0, slots := 0, locals := 45 } : Room) s m args below meth c H locs 0 0 Q (F0 m 53 ls [])) ∧ (∀ (x1 : Int32) (x2 : Int32) (x3 : Int32) (x4 : Int32) (u7 : zSt) (H : Heap) (locs : List Loc) (ls : Array Slot), I144 n x1 x2 x3 x4 u7 → zDy D A s.heap (k7 a cI cZ u7) H locs → lv_has ls 7 [(0, .ref (a 7 99)), (1, .int x1), (2, .int x2), (3, .int x3), (4, .int x4)] → W p l e ({ frames := 2, cells := 0, slots := 0, locals := 45 } : Room) s m args below meth c H locs 0 0 Q (F0 m 144 ls [])) ∧ (∀ (x1 : Int32) (x2 : Int32) (x3 : Int32) (x4 : Int32) (x5 : Int32) (x6 : Int32) (u7 : zSt) (H : Heap) (locs : List Loc) (ls : Array Slot), I156 n x1 x2 x3 x4 x5 x6 u7 → zDy D A s.heap (k7 a cI cZ u7) H locs → lv_has ls 7 [(0, .ref (a 7 99)), (1, .int x1), (2, .int x2), (3, .int x3), (4, .int x4), (5, .int x5), (6, .int x6)] → W p l e ({ frames := 2, cells := 0, slots := 0, locals := 45 } : Room) s m args below meth c H locs 0 0 Q (F0 m 156 ls [])) := by
    intro n
    induction n using Nat.strongRecOn with
    | _ n ih =>
      exact ⟨fun x1 x2 u7 H locs ls hi Y hl => bk_X7_changes_25 C Y hl hret (fun y0 y1 y2 H locs ls hi Y hl => by obtain ⟨k, hk, hi⟩ := hi; exact (ih k hk).1 y0 y1 y2 H locs ls hi Y hl) (fun y0 y1 y2 y3 H locs ls hi Y hl => by obtain ⟨k, hk, hi⟩ := hi; exact (ih k hk).2.1 y0 y1 y2 y3 H locs ls hi Y hl) (fun y0 y1 y2 y3 y4 y5 H locs ls hi Y hl => by obtain ⟨k, hk, hi⟩ := hi; exact (ih k hk).2.2.1 y0 y1 y2 y3 y4 y5 H locs ls hi Y hl) (fun y0 y1 y2 y3 y4 H locs ls hi Y hl => by obtain ⟨k, hk, hi⟩ := hi; exact (ih k hk).2.2.2.1 y0 y1 y2 y3 y4 H locs ls hi Y hl) (fun y0 y1 y2 y3 y4 y5 y6 H locs ls hi Y hl => by obtain ⟨k, hk, hi⟩ := hi; exact (ih k hk).2.2.2.2 y0 y1 y2 y3 y4 y5 y6 H locs ls hi Y hl) (hI25 n x1 x2 u7 hi), fun x1 x2 x3 u7 H locs ls hi Y hl => bk_X7_changes_31 C Y hl hret (fun y0 y1 y2 H locs ls hi Y hl => by obtain ⟨k, hk, hi⟩ := hi; exact (ih k hk).1 y0 y1 y2 H locs ls hi Y hl) (fun y0 y1 y2 y3 H locs ls hi Y hl => by obtain ⟨k, hk, hi⟩ := hi; exact (ih k hk).2.1 y0 y1 y2 y3 H locs ls hi Y hl) (fun y0 y1 y2 y3 y4 y5 H locs ls hi Y hl => by obtain ⟨k, hk, hi⟩ := hi; exact (ih k hk).2.2.1 y0 y1 y2 y3 y4 y5 H locs ls hi Y hl) (fun y0 y1 y2 y3 y4 H locs ls hi Y hl => by obtain ⟨k, hk, hi⟩ := hi; exact (ih k hk).2.2.2.1 y0 y1 y2 y3 y4 H locs ls hi Y hl) (fun y0 y1 y2 y3 y4 y5 y6 H locs ls hi Y hl => by obtain ⟨k, hk, hi⟩ := hi; exact (ih k hk).2.2.2.2 y0 y1 y2 y3 y4 y5 y6 H locs ls hi Y hl) (hI31 n x1 x2 x3 u7 hi), fun x1 x2 x3 x4 x5 u7 H locs ls hi Y hl => bk_X7_changes_53 C Y hl hret (fun y0 y1 y2 H locs ls hi Y hl => by obtain ⟨k, hk, hi⟩ := hi; exact (ih k hk).1 y0 y1 y2 H locs ls hi Y hl) (fun y0 y1 y2 y3 H locs ls hi Y hl => by obtain ⟨k, hk, hi⟩ := hi; exact (ih k hk).2.1 y0 y1 y2 y3 H locs ls hi Y hl) (fun y0 y1 y2 y3 y4 y5 H locs ls hi Y hl => by obtain ⟨k, hk, hi⟩ := hi; exact (ih k hk).2.2.1 y0 y1 y2 y3 y4 y5 H locs ls hi Y hl) (fun y0 y1 y2 y3 y4 H locs ls hi Y hl => by obtain ⟨k, hk, hi⟩ := hi; exact (ih k hk).2.2.2.1 y0 y1 y2 y3 y4 H locs ls hi Y hl) (fun y0 y1 y2 y3 y4 y5 y6 H locs ls hi Y hl => by obtain ⟨k, hk, hi⟩ := hi; exact (ih k hk).2.2.2.2 y0 y1 y2 y3 y4 y5 y6 H locs ls hi Y hl) (hI53 n x1 x2 x3 x4 x5 u7 hi), fun x1 x2 x3 x4 u7 H locs ls hi Y hl => bk_X7_changes_144 C Y hl hret (fun y0 y1 y2 H locs ls hi Y hl => by obtain ⟨k, hk, hi⟩ := hi; exact (ih k hk).1 y0 y1 y2 H locs ls hi Y hl) (fun y0 y1 y2 y3 H locs ls hi Y hl => by obtain ⟨k, hk, hi⟩ := hi; exact (ih k hk).2.1 y0 y1 y2 y3 H locs ls hi Y hl) (fun y0 y1 y2 y3 y4 y5 H locs ls hi Y hl => by obtain ⟨k, hk, hi⟩ := hi; exact (ih k hk).2.2.1 y0 y1 y2 y3 y4 y5 H locs ls hi Y hl) (fun y0 y1 y2 y3 y4 H locs ls hi Y hl => by obtain ⟨k, hk, hi⟩ := hi; exact (ih k hk).2.2.2.1 y0 y1 y2 y3 y4 H locs ls hi Y hl) (fun y0 y1 y2 y3 y4 y5 y6 H locs ls hi Y hl => by obtain ⟨k, hk, hi⟩ := hi; exact (ih k hk).2.2.2.2 y0 y1 y2 y3 y4 y5 y6 H locs ls hi Y hl) (hI144 n x1 x2 x3 x4 u7 hi), fun x1 x2 x3 x4 x5 x6 u7 H locs ls hi Y hl => bk_X7_changes_156 C Y hl hret (fun y0 y1 y2 H locs ls hi Y hl => by obtain ⟨k, hk, hi⟩ := hi; exact (ih k hk).1 y0 y1 y2 H locs ls hi Y hl) (fun y0 y1 y2 y3 H locs ls hi Y hl => by obtain ⟨k, hk, hi⟩ := hi; exact (ih k hk).2.1 y0 y1 y2 y3 H locs ls hi Y hl) (fun y0 y1 y2 y3 y4 y5 H locs ls hi Y hl => by obtain ⟨k, hk, hi⟩ := hi; exact (ih k hk).2.2.1 y0 y1 y2 y3 y4 y5 H locs ls hi Y hl) (fun y0 y1 y2 y3 y4 H locs ls hi Y hl => by obtain ⟨k, hk, hi⟩ := hi; exact (ih k hk).2.2.2.1 y0 y1 y2 y3 y4 H locs ls hi Y hl) (fun y0 y1 y2 y3 y4 y5 y6 H locs ls hi Y hl => by obtain ⟨k, hk, hi⟩ := hi; exact (ih k hk).2.2.2.2 y0 y1 y2 y3 y4 y5 y6 H locs ls hi Y hl) (hI156 n x1 x2 x3 x4 x5 x6 u7 hi)⟩
  exact bk_X7_changes_0 C Y hl hret (fun y0 y1 y2 H locs ls hi Y hl => by obtain ⟨n, hi⟩ := hi; exact (key n).1 y0 y1 y2 H locs ls hi Y hl) (fun y0 y1 y2 y3 H locs ls hi Y hl => by obtain ⟨n, hi⟩ := hi; exact (key n).2.1 y0 y1 y2 y3 H locs ls hi Y hl) (fun y0 y1 y2 y3 y4 y5 H locs ls hi Y hl => by obtain ⟨n, hi⟩ := hi; exact (key n).2.2.1 y0 y1 y2 y3 y4 y5 H locs ls hi Y hl) (fun y0 y1 y2 y3 y4 H locs ls hi Y hl => by obtain ⟨n, hi⟩ := hi; exact (key n).2.2.2.1 y0 y1 y2 y3 y4 H locs ls hi Y hl) (fun y0 y1 y2 y3 y4 y5 y6 H locs ls hi Y hl => by obtain ⟨n, hi⟩ := hi; exact (key n).2.2.2.2 y0 y1 y2 y3 y4 y5 y6 H locs ls hi Y hl) hv
def TX7_changes (Q1 : Int32 → zSt → Prop) (u7 : zSt) : Prop :=
  ∃ I25 : Nat → Int32 → Int32 → zSt → Prop, ∃ I31 : Nat → Int32 → Int32 → Int32 → zSt → Prop, ∃ I53 : Nat → Int32 → Int32 → Int32 → Int32 → Int32 → zSt → Prop, ∃ I144 : Nat → Int32 → Int32 → Int32 → Int32 → zSt → Prop, ∃ I156 : Nat → Int32 → Int32 → Int32 → Int32 → Int32 → Int32 → zSt → Prop, (wp_X7_changes_0 (fun x1 x2 u7 => ∃ n : Nat, I25 n x1 x2 u7) (fun x1 x2 x3 u7 => ∃ n : Nat, I31 n x1 x2 x3 u7) (fun x1 x2 x3 x4 x5 u7 => ∃ n : Nat, I53 n x1 x2 x3 x4 x5 u7) (fun x1 x2 x3 x4 u7 => ∃ n : Nat, I144 n x1 x2 x3 x4 u7) (fun x1 x2 x3 x4 x5 x6 u7 => ∃ n : Nat, I156 n x1 x2 x3 x4 x5 x6 u7) Q1  u7) ∧ (∀ (n : Nat) (x1 : Int32) (x2 : Int32) (u7 : zSt), I25 n x1 x2 u7 → wp_X7_changes_25 (fun x1 x2 u7 => ∃ k : Nat, k < n ∧ I25 k x1 x2 u7) (fun x1 x2 x3 u7 => ∃ k : Nat, k < n ∧ I31 k x1 x2 x3 u7) (fun x1 x2 x3 x4 x5 u7 => ∃ k : Nat, k < n ∧ I53 k x1 x2 x3 x4 x5 u7) (fun x1 x2 x3 x4 u7 => ∃ k : Nat, k < n ∧ I144 k x1 x2 x3 x4 u7) (fun x1 x2 x3 x4 x5 x6 u7 => ∃ k : Nat, k < n ∧ I156 k x1 x2 x3 x4 x5 x6 u7) Q1 x1 x2 u7) ∧ (∀ (n : Nat) (x1 : Int32) (x2 : Int32) (x3 : Int32) (u7 : zSt), I31 n x1 x2 x3 u7 → wp_X7_changes_31 (fun x1 x2 u7 => ∃ k : Nat, k < n ∧ I25 k x1 x2 u7) (fun x1 x2 x3 u7 => ∃ k : Nat, k < n ∧ I31 k x1 x2 x3 u7) (fun x1 x2 x3 x4 x5 u7 => ∃ k : Nat, k < n ∧ I53 k x1 x2 x3 x4 x5 u7) (fun x1 x2 x3 x4 u7 => ∃ k : Nat, k < n ∧ I144 k x1 x2 x3 x4 u7) (fun x1 x2 x3 x4 x5 x6 u7 => ∃ k : Nat, k < n ∧ I156 k x1 x2 x3 x4 x5 x6 u7) Q1 x1 x2 x3 u7) ∧ (∀ (n : Nat) (x1 : Int32) (x2 : Int32) (x3 : Int32) (x4 : Int32) (x5 : Int32) (u7 : zSt), I53 n x1 x2 x3 x4 x5 u7 → wp_X7_changes_53 (fun x1 x2 u7 => ∃ k : Nat, k < n ∧ I25 k x1 x2 u7) (fun x1 x2 x3 u7 => ∃ k : Nat, k < n ∧ I31 k x1 x2 x3 u7) (fun x1 x2 x3 x4 x5 u7 => ∃ k : Nat, k < n ∧ I53 k x1 x2 x3 x4 x5 u7) (fun x1 x2 x3 x4 u7 => ∃ k : Nat, k < n ∧ I144 k x1 x2 x3 x4 u7) (fun x1 x2 x3 x4 x5 x6 u7 => ∃ k : Nat, k < n ∧ I156 k x1 x2 x3 x4 x5 x6 u7) Q1 x1 x2 x3 x4 x5 u7) ∧ (∀ (n : Nat) (x1 : Int32) (x2 : Int32) (x3 : Int32) (x4 : Int32) (u7 : zSt), I144 n x1 x2 x3 x4 u7 → wp_X7_changes_144 (fun x1 x2 u7 => ∃ k : Nat, k < n ∧ I25 k x1 x2 u7) (fun x1 x2 x3 u7 => ∃ k : Nat, k < n ∧ I31 k x1 x2 x3 u7) (fun x1 x2 x3 x4 x5 u7 => ∃ k : Nat, k < n ∧ I53 k x1 x2 x3 x4 x5 u7) (fun x1 x2 x3 x4 u7 => ∃ k : Nat, k < n ∧ I144 k x1 x2 x3 x4 u7) (fun x1 x2 x3 x4 x5 x6 u7 => ∃ k : Nat, k < n ∧ I156 k x1 x2 x3 x4 x5 x6 u7) Q1 x1 x2 x3 x4 u7) ∧ (∀ (n : Nat) (x1 : Int32) (x2 : Int32) (x3 : Int32) (x4 : Int32) (x5 : Int32) (x6 : Int32) (u7 : zSt), I156 n x1 x2 x3 x4 x5 x6 u7 → wp_X7_changes_156 (fun x1 x2 u7 => ∃ k : Nat, k < n ∧ I25 k x1 x2 u7) (fun x1 x2 x3 u7 => ∃ k : Nat, k < n ∧ I31 k x1 x2 x3 u7) (fun x1 x2 x3 x4 x5 u7 => ∃ k : Nat, k < n ∧ I53 k x1 x2 x3 x4 x5 u7) (fun x1 x2 x3 x4 u7 => ∃ k : Nat, k < n ∧ I144 k x1 x2 x3 x4 u7) (fun x1 x2 x3 x4 x5 x6 u7 => ∃ k : Nat, k < n ∧ I156 k x1 x2 x3 x4 x5 x6 u7) Q1 x1 x2 x3 x4 x5 x6 u7)
set_option maxHeartbeats 4000000 in
set_option maxRecDepth 100000 in
theorem c_X7_changes (l : Launch) {D : va_G} {cI cZ cJ : ClassId} {a : Nat → Nat → Nat} {Q1 : Int32 → zSt → Prop} {u7 : zSt} (hv : TX7_changes Q1  u7) : zMI l yX7_changes wsX7_changes ({ frames := 2, cells := 0, slots := 0, locals := 45 } : Room) D cI cZ cJ [.ref (a 7 99)] (k7 a cI cZ u7) (fun u : zSt => k7 a cI cZ u) Q1 := by
  obtain ⟨I25, I31, I53, I144, I156, hv, hI25, hI31, hI53, hI144, hI156⟩ := hv
  exact k_X7_changes l I25 I31 I53 I144 I156 hv hI25 hI31 hI53 hI144 hI156


theorem in_X7_count_7 : ∀ w ∈ wsX70, w ∈ wsX7_count := by first | exact fun w h => List.mem_cons_of_mem _ (List.mem_append_right _ h) | exact fun w h => List.mem_cons_of_mem _ (List.mem_append_left _ (List.mem_append_right _ h)) | decide +kernel
theorem fl_X7_count_86 : Cond.fieldLink RX7 86 (TX7 40).1 (TX7 40).2.1 (TX7 40).2.2.1 ∈ wsX7_count := by decide +kernel
theorem fl_X7_count_93 : Cond.fieldLink RX7 93 (TX7 0).1 (TX7 0).2.1 (TX7 0).2.2.1 ∈ wsX7_count := by decide +kernel
theorem fl_X7_count_104 : Cond.fieldLink RX7 104 (TX7 6).1 (TX7 6).2.1 (TX7 6).2.2.1 ∈ wsX7_count := by decide +kernel
theorem fl_X7_count_132 : Cond.fieldLink RX7 132 (TX7 17).1 (TX7 17).2.1 (TX7 17).2.2.1 ∈ wsX7_count := by decide +kernel
theorem fl_X7_count_142 : Cond.fieldLink RX7 142 (TX7 19).1 (TX7 19).2.1 (TX7 19).2.2.1 ∈ wsX7_count := by decide +kernel
theorem fl_X7_count_149 : Cond.fieldLink RX7 149 (TX7 20).1 (TX7 20).2.1 (TX7 20).2.2.1 ∈ wsX7_count := by decide +kernel
theorem fl_X7_count_152 : Cond.fieldLink RX7 152 (TX7 25).1 (TX7 25).2.1 (TX7 25).2.2.1 ∈ wsX7_count := by decide +kernel
theorem fl_X7_count_155 : Cond.fieldLink RX7 155 (TX7 1).1 (TX7 1).2.1 (TX7 1).2.2.1 ∈ wsX7_count := by decide +kernel
theorem fl_X7_count_190 : Cond.fieldLink RX7 190 (TX7 34).1 (TX7 34).2.1 (TX7 34).2.2.1 ∈ wsX7_count := by decide +kernel
theorem fl_X7_count_199 : Cond.fieldLink RX7 199 (TX7 39).1 (TX7 39).2.1 (TX7 39).2.2.1 ∈ wsX7_count := by decide +kernel
section
variable {p : Program} {l : Launch} {e : Env} {s : State} {m : MethodId} {args : Array Value} {below : List Frame} {meth : Method} {c : Code} {H : Heap} {locs : List Loc} {Q : State → Prop} {D : va_G} {cI cZ cJ : ClassId} {A : Nat → Prop} {ls : Array Slot}
def wp_X7_count_0 (Q1 : Int32 → zSt → Prop) (p1 : Int32) (u7 : zSt) : Prop :=
  ∀ u7_1 : zSt, u7_1 = zI u7 0 0 → ∀ t_2 : Int32, t_2 = p1 → (t_2 = 0 → Q1 (u7_1.1 1) u7_1) ∧ (¬ t_2 = 0 → (t_2 = 1 → Q1 (u7_1.1 6) u7_1) ∧ (¬ t_2 = 1 → (t_2 = 2 → Q1 (u7_1.1 17) u7_1) ∧ (¬ t_2 = 2 → (t_2 = 3 → Q1 (u7_1.1 19) u7_1) ∧ (¬ t_2 = 3 → (t_2 = 4 → Q1 (u7_1.1 20) u7_1) ∧ (¬ t_2 = 4 → (t_2 = 5 → Q1 (u7_1.1 25) u7_1) ∧ (¬ t_2 = 5 → (t_2 = 6 → TX7_slatsOfAll (fun (r_4 : Int32) (u7_3 : zSt) => Q1 r_4 u7_3)  u7_1) ∧ (¬ t_2 = 6 → (t_2 = 7 → Q1 (u7_1.1 34) u7_1) ∧ (¬ t_2 = 7 → (t_2 = 8 → Q1 (u7_1.1 39) u7_1) ∧ (¬ t_2 = 8 → (t_2 = 9 → Q1 (u7_1.1 40) u7_1) ∧ (¬ t_2 = 9 → Q1 (-1) u7_1))))))))))

set_option maxHeartbeats 4000000 in
set_option maxRecDepth 100000 in
theorem bk_X7_count_0 {a : Nat → Nat → Nat} {Q1 : Int32 → zSt → Prop} {p1 : Int32} {u7 : zSt} (C : zCx p s m args c cX7_count 2 RX7 wsX7_count D cI cZ cJ A) (Y : zDy D A s.heap (k7 a cI cZ u7) H locs) (hl : lv_has ls 2 [(0, .ref (a 7 99)), (1, .int p1)]) (hret : ∀ {pc : Nat} {H : Heap} {locs : List Loc} {ls : Array Slot} {r : Int32} {u : zSt}, zDy D A s.heap ((fun u : zSt => k7 a cI cZ u) u) H locs → Q1 r u → decode cX7_count pc = .ok (.ireturn, 1) → W p l e ({ frames := 1, cells := 0, slots := 0, locals := 22 } : Room) s m args below meth c H locs 0 0 Q (F0 m pc ls [.int r])) (hv : wp_X7_count_0 Q1 p1 u7) : W p l e ({ frames := 1, cells := 0, slots := 0, locals := 22 } : Room) s m args below meth c H locs 0 0 Q (F0 m 0 ls []) := by
  unfold wp_X7_count_0 at hv
  obtain ⟨hx, hb, hml, hown, hts, hK, hA⟩ := id C
  refine lv_aload_n hx hb dX7_count_0 rfl (lv_at hl 0 rfl) ?_
  refine lv_iconst (v := 0) hx hb dX7_count_1 (by decide) ?_
  refine z_putI C Y (Cn := RX7) (T := TX7) (N := 42) in_X7_count_7 rfl tyX7 tyX7_ok nmX7 (ge7_7 ..) 0 (by decide) fl_X7_count_93 rfl (by decide +kernel) (Nat.le_of_ble_eq_true rfl) (si7_7_0 ..) dX7_count_2 (fun H locs Y => ?_)
  obtain ⟨u7_1, eu7_1, Y, hv⟩ := z_nm (kf := fun z => (k7 a cI cZ z)) Y hv
  refine lv_iload_n hx hb dX7_count_5 rfl (lv_at hl 1 rfl) ?_
  refine z_topi hv (fun t_2 et_2 hv => ?_)
  by_cases h0_6 : t_2 = 0
  · have hv := hv.1 h0_6
    rw [h0_6]
    refine lv_tableIn (off := 54) (tgt := 60) hx hb dX7_count_6 (by decide) (by decide) (by decide) (by decide) ?_
    refine lv_aload_n hx hb dX7_count_60 rfl (lv_at hl 0 rfl) ?_
    refine z_get C Y (Cn := RX7) (T := TX7) (N := 42) in_X7_count_7 rfl (ge7_7 ..) 1 (by decide) fl_X7_count_155 rfl dX7_count_61 ?_
    exact hret Y hv dX7_count_64
  replace hv := hv.2 h0_6
  by_cases h1_6 : t_2 = 1
  · have hv := hv.1 h1_6
    rw [h1_6]
    refine lv_tableIn (off := 59) (tgt := 65) hx hb dX7_count_6 (by decide) (by decide) (by decide) (by decide) ?_
    refine lv_aload_n hx hb dX7_count_65 rfl (lv_at hl 0 rfl) ?_
    refine z_get C Y (Cn := RX7) (T := TX7) (N := 42) in_X7_count_7 rfl (ge7_7 ..) 6 (by decide) fl_X7_count_104 rfl dX7_count_66 ?_
    exact hret Y hv dX7_count_69
  replace hv := hv.2 h1_6
  by_cases h2_6 : t_2 = 2
  · have hv := hv.1 h2_6
    rw [h2_6]
    refine lv_tableIn (off := 64) (tgt := 70) hx hb dX7_count_6 (by decide) (by decide) (by decide) (by decide) ?_
    refine lv_aload_n hx hb dX7_count_70 rfl (lv_at hl 0 rfl) ?_
    refine z_get C Y (Cn := RX7) (T := TX7) (N := 42) in_X7_count_7 rfl (ge7_7 ..) 17 (by decide) fl_X7_count_132 rfl dX7_count_71 ?_
    exact hret Y hv dX7_count_74
  replace hv := hv.2 h2_6
  by_cases h3_6 : t_2 = 3
  · have hv := hv.1 h3_6
    rw [h3_6]
    refine lv_tableIn (off := 69) (tgt := 75) hx hb dX7_count_6 (by decide) (by decide) (by decide) (by decide) ?_
    refine lv_aload_n hx hb dX7_count_75 rfl (lv_at hl 0 rfl) ?_
    refine z_get C Y (Cn := RX7) (T := TX7) (N := 42) in_X7_count_7 rfl (ge7_7 ..) 19 (by decide) fl_X7_count_142 rfl dX7_count_76 ?_
    exact hret Y hv dX7_count_79
  replace hv := hv.2 h3_6
  by_cases h4_6 : t_2 = 4
  · have hv := hv.1 h4_6
    rw [h4_6]
    refine lv_tableIn (off := 74) (tgt := 80) hx hb dX7_count_6 (by decide) (by decide) (by decide) (by decide) ?_
    refine lv_aload_n hx hb dX7_count_80 rfl (lv_at hl 0 rfl) ?_
    refine z_get C Y (Cn := RX7) (T := TX7) (N := 42) in_X7_count_7 rfl (ge7_7 ..) 20 (by decide) fl_X7_count_149 rfl dX7_count_81 ?_
    exact hret Y hv dX7_count_84
  replace hv := hv.2 h4_6
  by_cases h5_6 : t_2 = 5
  · have hv := hv.1 h5_6
    rw [h5_6]
    refine lv_tableIn (off := 79) (tgt := 85) hx hb dX7_count_6 (by decide) (by decide) (by decide) (by decide) ?_
    refine lv_aload_n hx hb dX7_count_85 rfl (lv_at hl 0 rfl) ?_
    refine z_get C Y (Cn := RX7) (T := TX7) (N := 42) in_X7_count_7 rfl (ge7_7 ..) 25 (by decide) fl_X7_count_152 rfl dX7_count_86 ?_
    exact hret Y hv dX7_count_89
  replace hv := hv.2 h5_6
  by_cases h6_6 : t_2 = 6
  · have hv := hv.1 h6_6
    rw [h6_6]
    refine lv_tableIn (off := 84) (tgt := 90) hx hb dX7_count_6 (by decide) (by decide) (by decide) (by decide) ?_
    refine lv_aload_n hx hb dX7_count_90 rfl (lv_at hl 0 rfl) ?_
    refine z_callVi C Y (c_X7_slatsOfAll l hv) (zFr.self _ _) (cwV 0 hts gX7_count_X7_slatsOfAll rfl rfl rfl (by decide +kernel) ⟨(Nat.le_of_ble_eq_true rfl), (Nat.le_of_ble_eq_true rfl)⟩) (ge7_7 ..) rfl rfl rfl hl.1 rfl (Nat.le_of_ble_eq_true rfl) dX7_count_91 ⟨Nat.zero_le _, Nat.zero_le _⟩ (fun r_4 u7_3 H locs Y hv => ?_)
    exact hret Y hv dX7_count_94
  replace hv := hv.2 h6_6
  by_cases h7_6 : t_2 = 7
  · have hv := hv.1 h7_6
    rw [h7_6]
    refine lv_tableIn (off := 89) (tgt := 95) hx hb dX7_count_6 (by decide) (by decide) (by decide) (by decide) ?_
    refine lv_aload_n hx hb dX7_count_95 rfl (lv_at hl 0 rfl) ?_
    refine z_get C Y (Cn := RX7) (T := TX7) (N := 42) in_X7_count_7 rfl (ge7_7 ..) 34 (by decide) fl_X7_count_190 rfl dX7_count_96 ?_
    exact hret Y hv dX7_count_99
  replace hv := hv.2 h7_6
  by_cases h8_6 : t_2 = 8
  · have hv := hv.1 h8_6
    rw [h8_6]
    refine lv_tableIn (off := 94) (tgt := 100) hx hb dX7_count_6 (by decide) (by decide) (by decide) (by decide) ?_
    refine lv_aload_n hx hb dX7_count_100 rfl (lv_at hl 0 rfl) ?_
    refine z_get C Y (Cn := RX7) (T := TX7) (N := 42) in_X7_count_7 rfl (ge7_7 ..) 39 (by decide) fl_X7_count_199 rfl dX7_count_101 ?_
    exact hret Y hv dX7_count_104
  replace hv := hv.2 h8_6
  by_cases h9_6 : t_2 = 9
  · have hv := hv.1 h9_6
    rw [h9_6]
    refine lv_tableIn (off := 99) (tgt := 105) hx hb dX7_count_6 (by decide) (by decide) (by decide) (by decide) ?_
    refine lv_aload_n hx hb dX7_count_105 rfl (lv_at hl 0 rfl) ?_
    refine z_get C Y (Cn := RX7) (T := TX7) (N := 42) in_X7_count_7 rfl (ge7_7 ..) 40 (by decide) fl_X7_count_86 rfl dX7_count_106 ?_
    exact hret Y hv dX7_count_109
  replace hv := hv.2 h9_6
  refine lv_tableOut (tgt := 110) hx hb dX7_count_6 (by have q0 := lv_neT h0_6 (a := 0) (by decide); have q1 := lv_neT h1_6 (a := 1) (by decide); have q2 := lv_neT h2_6 (a := 2) (by decide); have q3 := lv_neT h3_6 (a := 3) (by decide); have q4 := lv_neT h4_6 (a := 4) (by decide); have q5 := lv_neT h5_6 (a := 5) (by decide); have q6 := lv_neT h6_6 (a := 6) (by decide); have q7 := lv_neT h7_6 (a := 7) (by decide); have q8 := lv_neT h8_6 (a := 8) (by decide); have q9 := lv_neT h9_6 (a := 9) (by decide); omega) (by decide) ?_
  refine lv_iconst (v := (-1)) hx hb dX7_count_110 (by decide) ?_
  exact hret Y hv dX7_count_111

end
abbrev TX7_count := wp_X7_count_0
set_option maxHeartbeats 4000000 in
set_option maxRecDepth 100000 in
theorem c_X7_count (l : Launch) {D : va_G} {cI cZ cJ : ClassId} {a : Nat → Nat → Nat} {Q1 : Int32 → zSt → Prop} {p1 : Int32} {u7 : zSt} (hv : wp_X7_count_0 Q1 p1 u7) : zMI l yX7_count wsX7_count ({ frames := 1, cells := 0, slots := 0, locals := 22 } : Room) D cI cZ cJ [.ref (a 7 99), .int p1] (k7 a cI cZ u7) (fun u : zSt => k7 a cI cZ u) Q1 :=
  z_ofI (by decide) rfl rfl (Nat.le_of_ble_eq_true rfl) (fun C Y hl hret => bk_X7_count_0 C Y hl hret hv)


