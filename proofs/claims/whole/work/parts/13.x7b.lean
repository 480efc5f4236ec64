theorem in_X7_cores_7 : ∀ w ∈ wsX70, w ∈ wsX7_cores := by first | exact fun w h => List.mem_cons_of_mem _ (List.mem_append_right _ h) | exact fun w h => List.mem_cons_of_mem _ (List.mem_append_left _ (List.mem_append_right _ h)) | decide +kernel
theorem fl_X7_cores_19 : Cond.fieldLink RX7 19 (TX7 5).1 (TX7 5).2.1 (TX7 5).2.2.1 ∈ wsX7_cores := by decide +kernel
theorem fl_X7_cores_25 : Cond.fieldLink RX7 25 (TX7 8).1 (TX7 8).2.1 (TX7 8).2.2.1 ∈ wsX7_cores := by decide +kernel
theorem fl_X7_cores_93 : Cond.fieldLink RX7 93 (TX7 0).1 (TX7 0).2.1 (TX7 0).2.2.1 ∈ wsX7_cores := by decide +kernel
theorem fl_X7_cores_104 : Cond.fieldLink RX7 104 (TX7 6).1 (TX7 6).2.1 (TX7 6).2.2.1 ∈ wsX7_cores := by decide +kernel
theorem fl_X7_cores_114 : Cond.fieldLink RX7 114 (TX7 10).1 (TX7 10).2.1 (TX7 10).2.2.1 ∈ wsX7_cores := by decide +kernel
theorem fl_X7_cores_117 : Cond.fieldLink RX7 117 (TX7 11).1 (TX7 11).2.1 (TX7 11).2.2.1 ∈ wsX7_cores := by decide +kernel
theorem fl_X7_cores_132 : Cond.fieldLink RX7 132 (TX7 17).1 (TX7 17).2.1 (TX7 17).2.2.1 ∈ wsX7_cores := by decide +kernel
section
variable {p : Program} {l : Launch} {e : Env} {s : State} {m : MethodId} {args : Array Value} {below : List Frame} {meth : Method} {c : Code} {H : Heap} {locs : List Loc} {Q : State → Prop} {D : va_G} {cI cZ cJ : ClassId} {A : Nat → Prop} {ls : Array Slot}
def wp_X7_cores_37 (J52 : Int32 → zSt → Prop) (Q1 : Int32 → zSt → Prop) (u7 : zSt) : Prop :=
  ((u7.1 0) = (0 : Int32) → Q1 (-1) u7) ∧ (¬ (u7.1 0) = (0 : Int32) → Q1 0 u7)

set_option maxHeartbeats 4000000 in
set_option maxRecDepth 100000 in
theorem bk_X7_cores_37 {a : Nat → Nat → Nat} {J52 : Int32 → zSt → Prop} {Q1 : Int32 → zSt → Prop} {u7 : zSt} (C : zCx p s m args c cX7_cores 4 RX7 wsX7_cores D cI cZ cJ A) (Y : zDy D A s.heap (k7 a cI cZ u7) H locs) (hl : lv_has ls 4 [(0, .ref (a 7 99))]) (hret : ∀ {pc : Nat} {H : Heap} {locs : List Loc} {ls : Array Slot} {r : Int32} {u : zSt}, zDy D A s.heap ((fun u : zSt => k7 a cI cZ u) u) H locs → Q1 r u → decode cX7_cores pc = .ok (.ireturn, 1) → W p l e ({ frames := 10, cells := 0, slots := 0, locals := 290 } : Room) s m args below meth c H locs 0 0 Q (F0 m pc ls [.int r])) (hJ52 : ∀ (x3 : Int32) (u7 : zSt) (H : Heap) (locs : List Loc) (ls : Array Slot), J52 x3 u7 → zDy D A s.heap (k7 a cI cZ u7) H locs → lv_has ls 4 [(0, .ref (a 7 99)), (3, .int x3)] → W p l e ({ frames := 10, cells := 0, slots := 0, locals := 290 } : Room) s m args below meth c H locs 0 0 Q (F0 m 52 ls [])) (hv : wp_X7_cores_37 J52 Q1  u7) : W p l e ({ frames := 10, cells := 0, slots := 0, locals := 290 } : Room) s m args below meth c H locs 0 0 Q (F0 m 37 ls []) := by
  unfold wp_X7_cores_37 at hv
  obtain ⟨hx, hb, hml, hown, hts, hK, hA⟩ := id C
  refine lv_aload_n hx hb dX7_cores_37 rfl (lv_at hl 0 rfl) ?_
  refine z_get C Y (Cn := RX7) (T := TX7) (N := 42) in_X7_cores_7 rfl (ge7_7 ..) 0 (by decide) fl_X7_cores_93 rfl dX7_cores_38 ?_
  refine lv_if_eq (tgt := 48) hx hb dX7_cores_41 (by decide) (fun hc => ?_) (fun hc => ?_)
  · have hv := hv.1 hc
    refine lv_iconst (v := (-1)) hx hb dX7_cores_48 (by decide) ?_
    exact hret Y hv dX7_cores_49
  · have hv := hv.2 hc
    refine lv_iconst (v := 0) hx hb dX7_cores_44 (by decide) ?_
    refine lv_goto (tgt := 49) hx hb dX7_cores_45 (by decide) ?_
    exact hret Y hv dX7_cores_49

def wp_X7_cores_0 (J52 : Int32 → zSt → Prop) (Q1 : Int32 → zSt → Prop) (p1 : Int32) (p2 : Int32) (u7 : zSt) : Prop :=
  ∀ u7_1 : zSt, u7_1 = zI u7 0 0 → TX7_noGrade (fun (r_2 : Int32) (_ : Unit) => TX7_throwsIf (fun (r_4 : Int32) (u7_3 : zSt) => (r_4 = (0 : Int32) → ((u7_3.1 17) = (12 : Int32) → wp_X7_cores_37 J52 Q1  u7_3) ∧ (¬ (u7_3.1 17) = (12 : Int32) → TX7_blends (fun (r_6 : Int32) (u7_5 : zSt) => (r_6 = (-1 : Int32) → wp_X7_cores_37 J52 Q1  u7_5) ∧ (¬ r_6 = (-1 : Int32) → ∀ x3_7 : Int32, x3_7 = 0 → J52 x3_7 u7_5)) p1 p2 u7_3)) ∧ (¬ r_4 = (0 : Int32) → wp_X7_cores_37 J52 Q1  u7_3)) r_2 1 u7_1) p1 p2 

set_option maxHeartbeats 4000000 in
set_option maxRecDepth 100000 in
theorem bk_X7_cores_0 {a : Nat → Nat → Nat} {J52 : Int32 → zSt → Prop} {Q1 : Int32 → zSt → Prop} {p1 : Int32} {p2 : Int32} {u7 : zSt} (C : zCx p s m args c cX7_cores 4 RX7 wsX7_cores D cI cZ cJ A) (Y : zDy D A s.heap (k7 a cI cZ u7) H locs) (hl : lv_has ls 4 [(0, .ref (a 7 99)), (1, .int p1), (2, .int p2)]) (hret : ∀ {pc : Nat} {H : Heap} {locs : List Loc} {ls : Array Slot} {r : Int32} {u : zSt}, zDy D A s.heap ((fun u : zSt => k7 a cI cZ u) u) H locs → Q1 r u → decode cX7_cores pc = .ok (.ireturn, 1) → W p l e ({ frames := 10, cells := 0, slots := 0, locals := 290 } : Room) s m args below meth c H locs 0 0 Q (F0 m pc ls [.int r])) (hJ52 : ∀ (x3 : Int32) (u7 : zSt) (H : Heap) (locs : List Loc) (ls : Array Slot), J52 x3 u7 → zDy D A s.heap (k7 a cI cZ u7) H locs → lv_has ls 4 [(0, .ref (a 7 99)), (3, .int x3)] → W p l e ({ frames := 10, cells := 0, slots := 0, locals := 290 } : Room) s m args below meth c H locs 0 0 Q (F0 m 52 ls [])) (hv : wp_X7_cores_0 J52 Q1 p1 p2 u7) : W p l e ({ frames := 10, cells := 0, slots := 0, locals := 290 } : Room) s m args below meth c H locs 0 0 Q (F0 m 0 ls []) := by
  unfold wp_X7_cores_0 at hv
  obtain ⟨hx, hb, hml, hown, hts, hK, hA⟩ := id C
  refine lv_aload_n hx hb dX7_cores_0 rfl (lv_at hl 0 rfl) ?_
  refine lv_iconst (v := 0) hx hb dX7_cores_1 (by decide) ?_
  refine z_putI C Y (Cn := RX7) (T := TX7) (N := 42) in_X7_cores_7 rfl tyX7 tyX7_ok nmX7 (ge7_7 ..) 0 (by decide) fl_X7_cores_93 rfl (by decide +kernel) (Nat.le_of_ble_eq_true rfl) (si7_7_0 ..) dX7_cores_2 (fun H locs Y => ?_)
  obtain ⟨u7_1, eu7_1, Y, hv⟩ := z_nm (kf := fun z => (k7 a cI cZ z)) Y hv
  refine lv_aload_n hx hb dX7_cores_5 rfl (lv_at hl 0 rfl) ?_
  refine lv_iload_n hx hb dX7_cores_6 rfl (lv_at hl 1 rfl) ?_
  refine lv_iload_n hx hb dX7_cores_7 rfl (lv_at hl 2 rfl) ?_
  refine z_callSi C Y (c_X7_noGrade l hv) (zFr.nil _) (va_cwS 2 hts gX7_cores_X7_noGrade rfl rfl rfl (by decide +kernel) ⟨(Nat.le_of_ble_eq_true rfl), (Nat.le_of_ble_eq_true rfl)⟩) rfl hl.1 rfl (Nat.le_of_ble_eq_true rfl) dX7_cores_8 ⟨Nat.zero_le _, Nat.zero_le _⟩ (fun r_2 _ H locs Y hv => ?_)
  refine lv_iconst (v := 1) hx hb dX7_cores_11 (by decide) ?_
  refine z_callVi C Y (c_X7_throwsIf l hv) (zFr.self _ _) (cwV 2 hts gX7_cores_X7_throwsIf rfl rfl rfl (by decide +kernel) ⟨(Nat.le_of_ble_eq_true rfl), (Nat.le_of_ble_eq_true rfl)⟩) (ge7_7 ..) rfl rfl rfl hl.1 rfl (Nat.le_of_ble_eq_true rfl) dX7_cores_12 ⟨Nat.zero_le _, Nat.zero_le _⟩ (fun r_4 u7_3 H locs Y hv => ?_)
  refine lv_if_ne (tgt := 37) hx hb dX7_cores_15 (by decide) (fun hc => ?_) (fun hc => ?_)
  · have hv := hv.2 hc
    exact bk_X7_cores_37 C Y (lv_sub hl [0] rfl) hret hJ52 hv
  · have hv := hv.1 hc
    refine lv_aload_n hx hb dX7_cores_18 rfl (lv_at hl 0 rfl) ?_
    refine z_get C Y (Cn := RX7) (T := TX7) (N := 42) in_X7_cores_7 rfl (ge7_7 ..) 17 (by decide) fl_X7_cores_132 rfl dX7_cores_19 ?_
    refine lv_bipush (v := 12) hx hb dX7_cores_22 (by decide) ?_
    refine lv_icmp_eq (tgt := 37) hx hb dX7_cores_24 (by decide) (fun hc => ?_) (fun hc => ?_)
    · have hv := hv.1 hc
      exact bk_X7_cores_37 C Y (lv_sub hl [0] rfl) hret hJ52 hv
    · have hv := hv.2 hc
      refine lv_aload_n hx hb dX7_cores_27 rfl (lv_at hl 0 rfl) ?_
      refine lv_iload_n hx hb dX7_cores_28 rfl (lv_at hl 1 rfl) ?_
      refine lv_iload_n hx hb dX7_cores_29 rfl (lv_at hl 2 rfl) ?_
      refine z_callVi C Y (c_X7_blends l hv) (zFr.self _ _) (cwV 2 hts gX7_cores_X7_blends rfl rfl rfl (by decide +kernel) ⟨(Nat.le_of_ble_eq_true rfl), (Nat.le_of_ble_eq_true rfl)⟩) (ge7_7 ..) rfl rfl rfl hl.1 rfl (Nat.le_of_ble_eq_true rfl) dX7_cores_30 ⟨Nat.zero_le _, Nat.zero_le _⟩ (fun r_6 u7_5 H locs Y hv => ?_)
      refine lv_iconst (v := (-1)) hx hb dX7_cores_33 (by decide) ?_
      refine lv_icmp_ne (tgt := 50) hx hb dX7_cores_34 (by decide) (fun hc => ?_) (fun hc => ?_)
      · have hv := hv.2 hc
        refine lv_iconst (v := 0) hx hb dX7_cores_50 (by decide) ?_
        refine z_topi hv (fun x3_7 ex3_7 hv => ?_)
        refine lv_istore_n (lv' := [(3, .int x3_7), (0, .ref (a 7 99)), (1, .int p1), (2, .int p2)]) hx hb dX7_cores_51 rfl hl (by decide) rfl (fun ls hl => ?_)
        exact hJ52 _ _ _ _ _ hv Y (lv_sub hl [1, 0] rfl)
      · have hv := hv.1 hc
        exact bk_X7_cores_37 C Y (lv_sub hl [0] rfl) hret hJ52 hv

def wp_X7_cores_52 (J52 : Int32 → zSt → Prop) (Q1 : Int32 → zSt → Prop) (x3 : Int32) (u7 : zSt) : Prop :=
  ((u7.1 6) ≤ x3 → TX7_adds (fun (r_2 : Int32) (u7_1 : zSt) => Q1 r_2 u7_1) 0 40 (u7.1 10) (u7.1 11) u7) ∧ (¬ (u7.1 6) ≤ x3 → vp_in x3 6 ∧ (vp_in x3 6 ∧ (vp_in x3 6 ∧ (∀ u7_3 : zSt, u7_3 = zA u7 5 (upd (u7.2 5) x3.toNatClampNeg ((u7.2 5 x3.toNatClampNeg) - (u7.2 8 x3.toNatClampNeg))) → ∀ x3_4 : Int32, x3_4 = x3 + 1 → J52 x3_4 u7_3))))

set_option maxHeartbeats 4000000 in
set_option maxRecDepth 100000 in
theorem bk_X7_cores_52 {a : Nat → Nat → Nat} {J52 : Int32 → zSt → Prop} {Q1 : Int32 → zSt → Prop} {x3 : Int32} {u7 : zSt} (C : zCx p s m args c cX7_cores 4 RX7 wsX7_cores D cI cZ cJ A) (Y : zDy D A s.heap (k7 a cI cZ u7) H locs) (hl : lv_has ls 4 [(0, .ref (a 7 99)), (3, .int x3)]) (hret : ∀ {pc : Nat} {H : Heap} {locs : List Loc} {ls : Array Slot} {r : Int32} {u : zSt}, zDy D A s.heap ((fun u : zSt => k7 a cI cZ u) u) H locs → Q1 r u → decode cX7_cores pc = .ok (.ireturn, 1) → W p l e ({ frames := 10, cells := 0, slots := 0, locals := 290 } : Room) s m args below meth c H locs 0 0 Q (F0 m pc ls [.int r])) (hJ52 : ∀ (x3 : Int32) (u7 : zSt) (H : Heap) (locs : List Loc) (ls : Array Slot), J52 x3 u7 → zDy D A s.heap (k7 a cI cZ u7) H locs → lv_has ls 4 [(0, .ref (a 7 99)), (3, .int x3)] → W p l e ({ frames := 10, cells := 0, slots := 0, locals := 290 } : Room) s m args below meth c H locs 0 0 Q (F0 m 52 ls [])) (hv : wp_X7_cores_52 J52 Q1 x3 u7) : W p l e ({ frames := 10, cells := 0, slots := 0, locals := 290 } : Room) s m args below meth c H locs 0 0 Q (F0 m 52 ls []) := by
  unfold wp_X7_cores_52 at hv
  obtain ⟨hx, hb, hml, hown, hts, hK, hA⟩ := id C
  refine lv_iload_n hx hb dX7_cores_52 rfl (lv_at hl 1 rfl) ?_
  refine lv_aload_n hx hb dX7_cores_53 rfl (lv_at hl 0 rfl) ?_
  refine z_get C Y (Cn := RX7) (T := TX7) (N := 42) in_X7_cores_7 rfl (ge7_7 ..) 6 (by decide) fl_X7_cores_104 rfl dX7_cores_54 ?_
  refine lv_icmp_ge (tgt := 81) hx hb dX7_cores_57 (by decide) (fun hc => ?_) (fun hc => ?_)
  · have hv := hv.1 hc
    refine lv_aload_n hx hb dX7_cores_81 rfl (lv_at hl 0 rfl) ?_
    refine lv_iconst (v := 0) hx hb dX7_cores_82 (by decide) ?_
    refine lv_bipush (v := 40) hx hb dX7_cores_83 (by decide) ?_
    refine lv_aload_n hx hb dX7_cores_85 rfl (lv_at hl 0 rfl) ?_
    refine z_get C Y (Cn := RX7) (T := TX7) (N := 42) in_X7_cores_7 rfl (ge7_7 ..) 10 (by decide) fl_X7_cores_114 rfl dX7_cores_86 ?_
    refine lv_aload_n hx hb dX7_cores_89 rfl (lv_at hl 0 rfl) ?_
    refine z_get C Y (Cn := RX7) (T := TX7) (N := 42) in_X7_cores_7 rfl (ge7_7 ..) 11 (by decide) fl_X7_cores_117 rfl dX7_cores_90 ?_
    refine z_callVi C Y (c_X7_adds l hv) (zFr.self _ _) (cwV 4 hts gX7_cores_X7_adds rfl rfl rfl (by decide +kernel) ⟨(Nat.le_of_ble_eq_true rfl), (Nat.le_of_ble_eq_true rfl)⟩) (ge7_7 ..) rfl rfl rfl hl.1 rfl (Nat.le_of_ble_eq_true rfl) dX7_cores_93 ⟨Nat.zero_le _, Nat.zero_le _⟩ (fun r_2 u7_1 H locs Y hv => ?_)
    exact hret Y hv dX7_cores_96
  · have hv := hv.2 hc
    refine lv_aload_n hx hb dX7_cores_60 rfl (lv_at hl 0 rfl) ?_
    refine z_get C Y (Cn := RX7) (T := TX7) (N := 42) in_X7_cores_7 rfl (ge7_7 ..) 5 (by decide) fl_X7_cores_19 rfl dX7_cores_61 ?_
    refine lv_iload_n hx hb dX7_cores_64 rfl (lv_at hl 1 rfl) ?_
    refine lv_dup2_11 hx hb dX7_cores_65 rfl rfl ?_
    obtain ⟨hi, hv⟩ := hv
    refine z_ldI C Y (pa7_7_5 ..) hi dX7_cores_66 ?_
    refine lv_aload_n hx hb dX7_cores_67 rfl (lv_at hl 0 rfl) ?_
    refine z_get C Y (Cn := RX7) (T := TX7) (N := 42) in_X7_cores_7 rfl (ge7_7 ..) 8 (by decide) fl_X7_cores_25 rfl dX7_cores_68 ?_
    refine lv_iload_n hx hb dX7_cores_71 rfl (lv_at hl 1 rfl) ?_
    obtain ⟨hi, hv⟩ := hv
    refine z_ldI C Y (pa7_7_8 ..) hi dX7_cores_72 ?_
    refine lv_isub hx hb dX7_cores_73 ?_
    obtain ⟨hi, hv⟩ := hv
    refine z_stI C Y (pa7_7_5 ..) (sa7_7_5 ..) hi dX7_cores_74 (fun H locs Y => ?_)
    obtain ⟨u7_3, eu7_3, Y, hv⟩ := z_nm (kf := fun z => (k7 a cI cZ z)) Y hv
    obtain ⟨x3_4, ex3_4, hv⟩ := z_nv hv
    refine lv_iinc (v := x3_4) (lv' := [(3, .int x3_4), (0, .ref (a 7 99))]) hx hb dX7_cores_75 hl (k := 1) rfl (by rw [ex3_4]; rfl) (by decide) rfl (fun ls hl => ?_)
    refine lv_goto (tgt := 52) hx hb dX7_cores_78 (by decide) ?_
    exact hJ52 _ _ _ _ _ hv Y (lv_sub hl [1, 0] rfl)

end
set_option maxHeartbeats 4000000 in
set_option maxRecDepth 100000 in
theorem k_X7_cores (l : Launch) {D : va_G} {cI cZ cJ : ClassId} {a : Nat → Nat → Nat} {Q1 : Int32 → zSt → Prop} {p1 : Int32} {p2 : Int32} {u7 : zSt} (I52 : Nat → Int32 → zSt → Prop)
    (hv : wp_X7_cores_0 (fun x3 u7 => ∃ n : Nat, I52 n x3 u7) Q1 p1 p2 u7)
    (hI52 : ∀ (n : Nat) (x3 : Int32) (u7 : zSt), I52 n x3 u7 → wp_X7_cores_52 (fun x3 u7 => ∃ k : Nat, k < n ∧ I52 k x3 u7) Q1 x3 u7) : zMI l yX7_cores wsX7_cores ({ frames := 10, cells := 0, slots := 0, locals := 290 } : Room) D cI cZ cJ [.ref (a 7 99), .int p1, .int p2] (k7 a cI cZ u7) (fun u : zSt => k7 a cI cZ u) Q1 := by
  refine z_ofI (by decide) rfl rfl (Nat.le_of_ble_eq_true rfl) (@fun p e s m args below meth c A Q ls C Y hl hret => ?_)
  have key : ∀ n : Nat, (∀ (x3 : Int32) (u7 : zSt) (H : Heap) (locs : List Loc) (ls : Array Slot), I52 n x3 u7 → zDy D A s.heap (k7 a cI cZ u7) H locs → lv_has ls 4 [(0, .ref (a 7 99)), (3, .int x3)] → W p l e ({ frames := 10, cells := 0, slots := 0, locals := 290 } : Room) s m args below meth c H locs 0 0 Q (F0 m 52 ls [])) := by
    intro n
    induction n using Nat.strongRecOn with
    | _ n ih =>
      exact fun x3 u7 H locs ls hi Y hl => bk_X7_cores_52 C Y hl hret (fun y0 y1 H locs ls hi Y hl => by obtain ⟨k, hk, hi⟩ := hi; exact (ih k hk) y0 y1 H locs ls hi Y hl) (hI52 n x3 u7 hi)
  exact bk_X7_cores_0 C Y hl hret (fun y0 y1 H locs ls hi Y hl => by obtain ⟨n, hi⟩ := hi; exact (key n) y0 y1 H locs ls hi Y hl) hv
def TX7_cores (Q1 : Int32 → zSt → Prop) (p1 : Int32) (p2 : Int32) (u7 : zSt) : Prop :=
  ∃ I52 : Nat → Int32 → zSt → Prop, (wp_X7_cores_0 (fun x3 u7 => ∃ n : Nat, I52 n x3 u7) Q1 p1 p2 u7) ∧ (∀ (n : Nat) (x3 : Int32) (u7 : zSt), I52 n x3 u7 → wp_X7_cores_52 (fun x3 u7 => ∃ k : Nat, k < n ∧ I52 k x3 u7) Q1 x3 u7)
set_option maxHeartbeats 4000000 in
set_option maxRecDepth 100000 in
theorem c_X7_cores (l : Launch) {D : va_G} {cI cZ cJ : ClassId} {a : Nat → Nat → Nat} {Q1 : Int32 → zSt → Prop} {p1 : Int32} {p2 : Int32} {u7 : zSt} (hv : TX7_cores Q1 p1 p2 u7) : zMI l yX7_cores wsX7_cores ({ frames := 10, cells := 0, slots := 0, locals := 290 } : Room) D cI cZ cJ [.ref (a 7 99), .int p1, .int p2] (k7 a cI cZ u7) (fun u : zSt => k7 a cI cZ u) Q1 := by
  obtain ⟨I52, hv, hI52⟩ := hv
  exact k_X7_cores l I52 hv hI52


theorem in_X7_lot_7 : ∀ w ∈ wsX70, w ∈ wsX7_lot := by first | exact fun w h => List.mem_cons_of_mem _ (List.mem_append_right _ h) | exact fun w h => List.mem_cons_of_mem _ (List.mem_append_left _ (List.mem_append_right _ h)) | decide +kernel
theorem fl_X7_lot_93 : Cond.fieldLink RX7 93 (TX7 0).1 (TX7 0).2.1 (TX7 0).2.2.1 ∈ wsX7_lot := by decide +kernel
theorem fl_X7_lot_132 : Cond.fieldLink RX7 132 (TX7 17).1 (TX7 17).2.1 (TX7 17).2.2.1 ∈ wsX7_lot := by decide +kernel
section
variable {p : Program} {l : Launch} {e : Env} {s : State} {m : MethodId} {args : Array Value} {below : List Frame} {meth : Method} {c : Code} {H : Heap} {locs : List Loc} {Q : State → Prop} {D : va_G} {cI cZ cJ : ClassId} {A : Nat → Prop} {ls : Array Slot}
def wp_X7_lot_53 (Q1 : Int32 → zSt → Prop) (x1 : Int32) (x2 : Int32) (t0 : Int32) (u7 : zSt) : Prop :=
  TX7_throwsIf (fun (r_2 : Int32) (u7_1 : zSt) => (r_2 = (0 : Int32) → TX7_adds (fun (r_4 : Int32) (u7_3 : zSt) => Q1 r_4 u7_3) x1 x2 (-1) (-1) u7_1) ∧ (¬ r_2 = (0 : Int32) → Q1 0 u7_1)) t0 2 u7

set_option maxHeartbeats 4000000 in
set_option maxRecDepth 100000 in
theorem bk_X7_lot_53 {a : Nat → Nat → Nat} {Q1 : Int32 → zSt → Prop} {x1 : Int32} {x2 : Int32} {t0 : Int32} {u7 : zSt} (C : zCx p s m args c cX7_lot 3 RX7 wsX7_lot D cI cZ cJ A) (Y : zDy D A s.heap (k7 a cI cZ u7) H locs) (hl : lv_has ls 3 [(0, .ref (a 7 99)), (1, .int x1), (2, .int x2)]) (hret : ∀ {pc : Nat} {H : Heap} {locs : List Loc} {ls : Array Slot} {r : Int32} {u : zSt}, zDy D A s.heap ((fun u : zSt => k7 a cI cZ u) u) H locs → Q1 r u → decode cX7_lot pc = .ok (.ireturn, 1) → W p l e ({ frames := 1, cells := 0, slots := 0, locals := 24 } : Room) s m args below meth c H locs 0 0 Q (F0 m pc ls [.int r])) (hv : wp_X7_lot_53 Q1 x1 x2 t0 u7) : W p l e ({ frames := 1, cells := 0, slots := 0, locals := 24 } : Room) s m args below meth c H locs 0 0 Q (F0 m 53 ls [.int t0, .ref (a 7 99)]) := by
  unfold wp_X7_lot_53 at hv
  obtain ⟨hx, hb, hml, hown, hts, hK, hA⟩ := id C
  refine lv_iconst (v := 2) hx hb dX7_lot_53 (by decide) ?_
  refine z_callVi C Y (c_X7_throwsIf l hv) (zFr.self _ _) (cwV 2 hts gX7_lot_X7_throwsIf rfl rfl rfl (by decide +kernel) ⟨(Nat.le_of_ble_eq_true rfl), (Nat.le_of_ble_eq_true rfl)⟩) (ge7_7 ..) rfl rfl rfl hl.1 rfl (Nat.le_of_ble_eq_true rfl) dX7_lot_54 ⟨Nat.zero_le _, Nat.zero_le _⟩ (fun r_2 u7_1 H locs Y hv => ?_)
  refine lv_if_eq (tgt := 62) hx hb dX7_lot_57 (by decide) (fun hc => ?_) (fun hc => ?_)
  · have hv := hv.1 hc
    refine lv_aload_n hx hb dX7_lot_62 rfl (lv_at hl 0 rfl) ?_
    refine lv_iload_n hx hb dX7_lot_63 rfl (lv_at hl 1 rfl) ?_
    refine lv_iload_n hx hb dX7_lot_64 rfl (lv_at hl 2 rfl) ?_
    refine lv_iconst (v := (-1)) hx hb dX7_lot_65 (by decide) ?_
    refine lv_iconst (v := (-1)) hx hb dX7_lot_66 (by decide) ?_
    refine z_callVi C Y (c_X7_adds l hv) (zFr.self _ _) (cwV 4 hts gX7_lot_X7_adds rfl rfl rfl (by decide +kernel) ⟨(Nat.le_of_ble_eq_true rfl), (Nat.le_of_ble_eq_true rfl)⟩) (ge7_7 ..) rfl rfl rfl hl.1 rfl (Nat.le_of_ble_eq_true rfl) dX7_lot_67 ⟨Nat.zero_le _, Nat.zero_le _⟩ (fun r_4 u7_3 H locs Y hv => ?_)
    exact hret Y hv dX7_lot_70
  · have hv := hv.2 hc
    refine lv_iconst (v := 0) hx hb dX7_lot_60 (by decide) ?_
    exact hret Y hv dX7_lot_61

def wp_X7_lot_31 (Q1 : Int32 → zSt → Prop) (x1 : Int32) (x2 : Int32) (t0 : Int32) (u7 : zSt) : Prop :=
  TX7_throwsIf (fun (r_2 : Int32) (u7_1 : zSt) => (r_2 = (0 : Int32) → ((u7_1.1 17) = (12 : Int32) → wp_X7_lot_53 Q1 x1 x2 1 u7_1) ∧ (¬ (u7_1.1 17) = (12 : Int32) → wp_X7_lot_53 Q1 x1 x2 0 u7_1)) ∧ (¬ r_2 = (0 : Int32) → Q1 0 u7_1)) t0 1 u7

set_option maxHeartbeats 4000000 in
set_option maxRecDepth 100000 in
theorem bk_X7_lot_31 {a : Nat → Nat → Nat} {Q1 : Int32 → zSt → Prop} {x1 : Int32} {x2 : Int32} {t0 : Int32} {u7 : zSt} (C : zCx p s m args c cX7_lot 3 RX7 wsX7_lot D cI cZ cJ A) (Y : zDy D A s.heap (k7 a cI cZ u7) H locs) (hl : lv_has ls 3 [(0, .ref (a 7 99)), (1, .int x1), (2, .int x2)]) (hret : ∀ {pc : Nat} {H : Heap} {locs : List Loc} {ls : Array Slot} {r : Int32} {u : zSt}, zDy D A s.heap ((fun u : zSt => k7 a cI cZ u) u) H locs → Q1 r u → decode cX7_lot pc = .ok (.ireturn, 1) → W p l e ({ frames := 1, cells := 0, slots := 0, locals := 24 } : Room) s m args below meth c H locs 0 0 Q (F0 m pc ls [.int r])) (hv : wp_X7_lot_31 Q1 x1 x2 t0 u7) : W p l e ({ frames := 1, cells := 0, slots := 0, locals := 24 } : Room) s m args below meth c H locs 0 0 Q (F0 m 31 ls [.int t0, .ref (a 7 99)]) := by
  unfold wp_X7_lot_31 at hv
  obtain ⟨hx, hb, hml, hown, hts, hK, hA⟩ := id C
  refine lv_iconst (v := 1) hx hb dX7_lot_31 (by decide) ?_
  refine z_callVi C Y (c_X7_throwsIf l hv) (zFr.self _ _) (cwV 2 hts gX7_lot_X7_throwsIf rfl rfl rfl (by decide +kernel) ⟨(Nat.le_of_ble_eq_true rfl), (Nat.le_of_ble_eq_true rfl)⟩) (ge7_7 ..) rfl rfl rfl hl.1 rfl (Nat.le_of_ble_eq_true rfl) dX7_lot_32 ⟨Nat.zero_le _, Nat.zero_le _⟩ (fun r_2 u7_1 H locs Y hv => ?_)
  refine lv_if_ne (tgt := 60) hx hb dX7_lot_35 (by decide) (fun hc => ?_) (fun hc => ?_)
  · have hv := hv.2 hc
    refine lv_iconst (v := 0) hx hb dX7_lot_60 (by decide) ?_
    exact hret Y hv dX7_lot_61
  · have hv := hv.1 hc
    refine lv_aload_n hx hb dX7_lot_38 rfl (lv_at hl 0 rfl) ?_
    refine lv_aload_n hx hb dX7_lot_39 rfl (lv_at hl 0 rfl) ?_
    refine z_get C Y (Cn := RX7) (T := TX7) (N := 42) in_X7_lot_7 rfl (ge7_7 ..) 17 (by decide) fl_X7_lot_132 rfl dX7_lot_40 ?_
    refine lv_bipush (v := 12) hx hb dX7_lot_43 (by decide) ?_
    refine lv_icmp_ne (tgt := 52) hx hb dX7_lot_45 (by decide) (fun hc => ?_) (fun hc => ?_)
    · have hv := hv.2 hc
      refine lv_iconst (v := 0) hx hb dX7_lot_52 (by decide) ?_
      exact bk_X7_lot_53 C Y (lv_sub hl [0, 1, 2] rfl) hret hv
    · have hv := hv.1 hc
      refine lv_iconst (v := 1) hx hb dX7_lot_48 (by decide) ?_
      refine lv_goto (tgt := 53) hx hb dX7_lot_49 (by decide) ?_
      exact bk_X7_lot_53 C Y (lv_sub hl [0, 1, 2] rfl) hret hv

def wp_X7_lot_26 (Q1 : Int32 → zSt → Prop) (x1 : Int32) (x2 : Int32) (u7 : zSt) : Prop :=
  wp_X7_lot_31 Q1 x1 x2 1 u7

set_option maxHeartbeats 4000000 in
set_option maxRecDepth 100000 in
theorem bk_X7_lot_26 {a : Nat → Nat → Nat} {Q1 : Int32 → zSt → Prop} {x1 : Int32} {x2 : Int32} {u7 : zSt} (C : zCx p s m args c cX7_lot 3 RX7 wsX7_lot D cI cZ cJ A) (Y : zDy D A s.heap (k7 a cI cZ u7) H locs) (hl : lv_has ls 3 [(0, .ref (a 7 99)), (1, .int x1), (2, .int x2)]) (hret : ∀ {pc : Nat} {H : Heap} {locs : List Loc} {ls : Array Slot} {r : Int32} {u : zSt}, zDy D A s.heap ((fun u : zSt => k7 a cI cZ u) u) H locs → Q1 r u → decode cX7_lot pc = .ok (.ireturn, 1) → W p l e ({ frames := 1, cells := 0, slots := 0, locals := 24 } : Room) s m args below meth c H locs 0 0 Q (F0 m pc ls [.int r])) (hv : wp_X7_lot_26 Q1 x1 x2 u7) : W p l e ({ frames := 1, cells := 0, slots := 0, locals := 24 } : Room) s m args below meth c H locs 0 0 Q (F0 m 26 ls [.ref (a 7 99)]) := by
  unfold wp_X7_lot_26 at hv
  obtain ⟨hx, hb, hml, hown, hts, hK, hA⟩ := id C
  refine lv_iconst (v := 1) hx hb dX7_lot_26 (by decide) ?_
  refine lv_goto (tgt := 31) hx hb dX7_lot_27 (by decide) ?_
  exact bk_X7_lot_31 C Y (lv_sub hl [0, 1, 2] rfl) hret hv

def wp_X7_lot_0 (Q1 : Int32 → zSt → Prop) (p1 : Int32) (p2 : Int32) (u7 : zSt) : Prop :=
  ∀ u7_1 : zSt, u7_1 = zI u7 0 0 → TX7_in (fun (r_2 : Int32) (_ : Unit) => (r_2 = (0 : Int32) → wp_X7_lot_26 Q1 p1 p2 u7_1) ∧ (¬ r_2 = (0 : Int32) → TX7_in (fun (r_3 : Int32) (_ : Unit) => (r_3 = (0 : Int32) → wp_X7_lot_26 Q1 p1 p2 u7_1) ∧ (¬ r_3 = (0 : Int32) → wp_X7_lot_31 Q1 p1 p2 0 u7_1)) p2 0 10000 )) p1 1 2 

set_option maxHeartbeats 4000000 in
set_option maxRecDepth 100000 in
theorem bk_X7_lot_0 {a : Nat → Nat → Nat} {Q1 : Int32 → zSt → Prop} {p1 : Int32} {p2 : Int32} {u7 : zSt} (C : zCx p s m args c cX7_lot 3 RX7 wsX7_lot D cI cZ cJ A) (Y : zDy D A s.heap (k7 a cI cZ u7) H locs) (hl : lv_has ls 3 [(0, .ref (a 7 99)), (1, .int p1), (2, .int p2)]) (hret : ∀ {pc : Nat} {H : Heap} {locs : List Loc} {ls : Array Slot} {r : Int32} {u : zSt}, zDy D A s.heap ((fun u : zSt => k7 a cI cZ u) u) H locs → Q1 r u → decode cX7_lot pc = .ok (.ireturn, 1) → W p l e ({ frames := 1, cells := 0, slots := 0, locals := 24 } : Room) s m args below meth c H locs 0 0 Q (F0 m pc ls [.int r])) (hv : wp_X7_lot_0 Q1 p1 p2 u7) : W p l e ({ frames := 1, cells := 0, slots := 0, locals := 24 } : Room) s m args below meth c H locs 0 0 Q (F0 m 0 ls []) := by
  unfold wp_X7_lot_0 at hv
  obtain ⟨hx, hb, hml, hown, hts, hK, hA⟩ := id C
  refine lv_aload_n hx hb dX7_lot_0 rfl (lv_at hl 0 rfl) ?_
  refine lv_iconst (v := 0) hx hb dX7_lot_1 (by decide) ?_
  refine z_putI C Y (Cn := RX7) (T := TX7) (N := 42) in_X7_lot_7 rfl tyX7 tyX7_ok nmX7 (ge7_7 ..) 0 (by decide) fl_X7_lot_93 rfl (by decide +kernel) (Nat.le_of_ble_eq_true rfl) (si7_7_0 ..) dX7_lot_2 (fun H locs Y => ?_)
  obtain ⟨u7_1, eu7_1, Y, hv⟩ := z_nm (kf := fun z => (k7 a cI cZ z)) Y hv
  refine lv_aload_n hx hb dX7_lot_5 rfl (lv_at hl 0 rfl) ?_
  refine lv_iload_n hx hb dX7_lot_6 rfl (lv_at hl 1 rfl) ?_
  refine lv_iconst (v := 1) hx hb dX7_lot_7 (by decide) ?_
  refine lv_iconst (v := 2) hx hb dX7_lot_8 (by decide) ?_
  refine z_callSi C Y (c_X7_in l hv) (zFr.nil _) (va_cwS 3 hts gX7_lot_X7_in rfl rfl rfl (by decide +kernel) ⟨(Nat.le_of_ble_eq_true rfl), (Nat.le_of_ble_eq_true rfl)⟩) rfl hl.1 rfl (Nat.le_of_ble_eq_true rfl) dX7_lot_9 ⟨Nat.zero_le _, Nat.zero_le _⟩ (fun r_2 _ H locs Y hv => ?_)
  refine lv_if_eq (tgt := 26) hx hb dX7_lot_12 (by decide) (fun hc => ?_) (fun hc => ?_)
  · have hv := hv.1 hc
    exact bk_X7_lot_26 C Y (lv_sub hl [0, 1, 2] rfl) hret hv
  · have hv := hv.2 hc
    refine lv_iload_n hx hb dX7_lot_15 rfl (lv_at hl 2 rfl) ?_
    refine lv_iconst (v := 0) hx hb dX7_lot_16 (by decide) ?_
    refine lv_sipush (v := 10000) hx hb dX7_lot_17 (by decide) ?_
    refine z_callSi C Y (c_X7_in l hv) (zFr.nil _) (va_cwS 3 hts gX7_lot_X7_in rfl rfl rfl (by decide +kernel) ⟨(Nat.le_of_ble_eq_true rfl), (Nat.le_of_ble_eq_true rfl)⟩) rfl hl.1 rfl (Nat.le_of_ble_eq_true rfl) dX7_lot_20 ⟨Nat.zero_le _, Nat.zero_le _⟩ (fun r_3 _ H locs Y hv => ?_)
    refine lv_if_ne (tgt := 30) hx hb dX7_lot_23 (by decide) (fun hc => ?_) (fun hc => ?_)
    · have hv := hv.2 hc
      refine lv_iconst (v := 0) hx hb dX7_lot_30 (by decide) ?_
      exact bk_X7_lot_31 C Y (lv_sub hl [0, 1, 2] rfl) hret hv
    · have hv := hv.1 hc
      exact bk_X7_lot_26 C Y (lv_sub hl [0, 1, 2] rfl) hret hv

end
abbrev TX7_lot := wp_X7_lot_0
set_option maxHeartbeats 4000000 in
set_option maxRecDepth 100000 in
theorem c_X7_lot (l : Launch) {D : va_G} {cI cZ cJ : ClassId} {a : Nat → Nat → Nat} {Q1 : Int32 → zSt → Prop} {p1 : Int32} {p2 : Int32} {u7 : zSt} (hv : wp_X7_lot_0 Q1 p1 p2 u7) : zMI l yX7_lot wsX7_lot ({ frames := 1, cells := 0, slots := 0, locals := 24 } : Room) D cI cZ cJ [.ref (a 7 99), .int p1, .int p2] (k7 a cI cZ u7) (fun u : zSt => k7 a cI cZ u) Q1 :=
  z_ofI (by decide) rfl rfl (Nat.le_of_ble_eq_true rfl) (fun C Y hl hret => bk_X7_lot_0 C Y hl hret hv)


theorem in_X7_uses_7 : ∀ w ∈ wsX70, w ∈ wsX7_uses := by first | exact fun w h => List.mem_cons_of_mem _ (List.mem_append_right _ h) | exact fun w h => List.mem_cons_of_mem _ (List.mem_append_left _ (List.mem_append_right _ h)) | decide +kernel
theorem fl_X7_uses_31 : Cond.fieldLink RX7 31 (TX7 13).1 (TX7 13).2.1 (TX7 13).2.2.1 ∈ wsX7_uses := by decide +kernel
theorem fl_X7_uses_34 : Cond.fieldLink RX7 34 (TX7 14).1 (TX7 14).2.1 (TX7 14).2.2.1 ∈ wsX7_uses := by decide +kernel
section
variable {p : Program} {l : Launch} {e : Env} {s : State} {m : MethodId} {args : Array Value} {below : List Frame} {meth : Method} {c : Code} {H : Heap} {locs : List Loc} {Q : State → Prop} {D : va_G} {cI cZ cJ : ClassId} {A : Nat → Prop} {ls : Array Slot}
def wp_X7_uses_0 (Q1 : zSt → Prop) (p1 : Int32) (p2 : Int32) (u7 : zSt) : Prop :=
  vp_in p1 12 ∧ (vp_in p1 12 ∧ (∀ u7_1 : zSt, u7_1 = zA u7 13 (upd (u7.2 13) p1.toNatClampNeg ((u7.2 13 p1.toNatClampNeg) - p2)) → vp_in p1 12 ∧ (vp_in p1 12 ∧ (∀ u7_2 : zSt, u7_2 = zA u7_1 14 (upd (u7_1.2 14) p1.toNatClampNeg ((u7_1.2 14 p1.toNatClampNeg) + p2)) → Q1 u7_2))))

set_option maxHeartbeats 4000000 in
set_option maxRecDepth 100000 in
theorem bk_X7_uses_0 {a : Nat → Nat → Nat} {Q1 : zSt → Prop} {p1 : Int32} {p2 : Int32} {u7 : zSt} (C : zCx p s m args c cX7_uses 3 RX7 wsX7_uses D cI cZ cJ A) (Y : zDy D A s.heap (k7 a cI cZ u7) H locs) (hl : lv_has ls 3 [(0, .ref (a 7 99)), (1, .int p1), (2, .int p2)]) (hret : ∀ {pc : Nat} {H : Heap} {locs : List Loc} {ls : Array Slot} {u : zSt}, zDy D A s.heap ((fun u : zSt => k7 a cI cZ u) u) H locs → Q1 u → decode cX7_uses pc = .ok (.return_, 1) → W p l e ({ frames := 0, cells := 0, slots := 0, locals := 0 } : Room) s m args below meth c H locs 0 0 Q (F0 m pc ls [])) (hv : wp_X7_uses_0 Q1 p1 p2 u7) : W p l e ({ frames := 0, cells := 0, slots := 0, locals := 0 } : Room) s m args below meth c H locs 0 0 Q (F0 m 0 ls []) := by
  unfold wp_X7_uses_0 at hv
  obtain ⟨hx, hb, hml, hown, hts, hK, hA⟩ := id C
  refine lv_aload_n hx hb dX7_uses_0 rfl (lv_at hl 0 rfl) ?_
  refine z_get C Y (Cn := RX7) (T := TX7) (N := 42) in_X7_uses_7 rfl (ge7_7 ..) 13 (by decide) fl_X7_uses_31 rfl dX7_uses_1 ?_
  refine lv_iload_n hx hb dX7_uses_4 rfl (lv_at hl 1 rfl) ?_
  refine lv_dup2_11 hx hb dX7_uses_5 rfl rfl ?_
  obtain ⟨hi, hv⟩ := hv
  refine z_ldI C Y (pa7_7_13 ..) hi dX7_uses_6 ?_
  refine lv_iload_n hx hb dX7_uses_7 rfl (lv_at hl 2 rfl) ?_
  refine lv_isub hx hb dX7_uses_8 ?_
  obtain ⟨hi, hv⟩ := hv
  refine z_stI C Y (pa7_7_13 ..) (sa7_7_13 ..) hi dX7_uses_9 (fun H locs Y => ?_)
  obtain ⟨u7_1, eu7_1, Y, hv⟩ := z_nm (kf := fun z => (k7 a cI cZ z)) Y hv
  refine lv_aload_n hx hb dX7_uses_10 rfl (lv_at hl 0 rfl) ?_
  refine z_get C Y (Cn := RX7) (T := TX7) (N := 42) in_X7_uses_7 rfl (ge7_7 ..) 14 (by decide) fl_X7_uses_34 rfl dX7_uses_11 ?_
  refine lv_iload_n hx hb dX7_uses_14 rfl (lv_at hl 1 rfl) ?_
  refine lv_dup2_11 hx hb dX7_uses_15 rfl rfl ?_
  obtain ⟨hi, hv⟩ := hv
  refine z_ldI C Y (pa7_7_14 ..) hi dX7_uses_16 ?_
  refine lv_iload_n hx hb dX7_uses_17 rfl (lv_at hl 2 rfl) ?_
  refine lv_iadd hx hb dX7_uses_18 ?_
  obtain ⟨hi, hv⟩ := hv
  refine z_stI C Y (pa7_7_14 ..) (sa7_7_14 ..) hi dX7_uses_19 (fun H locs Y => ?_)
  obtain ⟨u7_2, eu7_2, Y, hv⟩ := z_nm (kf := fun z => (k7 a cI cZ z)) Y hv
  exact hret Y hv dX7_uses_20

end
abbrev TX7_uses := wp_X7_uses_0
set_option maxHeartbeats 4000000 in
set_option maxRecDepth 100000 in
theorem c_X7_uses (l : Launch) {D : va_G} {cI cZ cJ : ClassId} {a : Nat → Nat → Nat} {Q1 : zSt → Prop} {p1 : Int32} {p2 : Int32} {u7 : zSt} (hv : wp_X7_uses_0 Q1 p1 p2 u7) : zMV l yX7_uses wsX7_uses ({ frames := 0, cells := 0, slots := 0, locals := 0 } : Room) D cI cZ cJ [.ref (a 7 99), .int p1, .int p2] (k7 a cI cZ u7) (fun u : zSt => k7 a cI cZ u) Q1 :=
  z_ofV (by decide) rfl rfl (Nat.le_of_ble_eq_true rfl) (fun C Y hl hret => bk_X7_uses_0 C Y hl hret hv)


theorem in_X7_make_7 : ∀ w ∈ wsX70, w ∈ wsX7_make := by first | exact fun w h => List.mem_cons_of_mem _ (List.mem_append_right _ h) | exact fun w h => List.mem_cons_of_mem _ (List.mem_append_left _ (List.mem_append_right _ h)) | decide +kernel
theorem fl_X7_make_28 : Cond.fieldLink RX7 28 (TX7 12).1 (TX7 12).2.1 (TX7 12).2.2.1 ∈ wsX7_make := by decide +kernel
theorem fl_X7_make_31 : Cond.fieldLink RX7 31 (TX7 13).1 (TX7 13).2.1 (TX7 13).2.2.1 ∈ wsX7_make := by decide +kernel
theorem fl_X7_make_43 : Cond.fieldLink RX7 43 (TX7 18).1 (TX7 18).2.1 (TX7 18).2.2.1 ∈ wsX7_make := by decide +kernel
theorem fl_X7_make_93 : Cond.fieldLink RX7 93 (TX7 0).1 (TX7 0).2.1 (TX7 0).2.2.1 ∈ wsX7_make := by decide +kernel
theorem fl_X7_make_142 : Cond.fieldLink RX7 142 (TX7 19).1 (TX7 19).2.1 (TX7 19).2.2.1 ∈ wsX7_make := by decide +kernel
theorem fl_X7_make_149 : Cond.fieldLink RX7 149 (TX7 20).1 (TX7 20).2.1 (TX7 20).2.2.1 ∈ wsX7_make := by decide +kernel
section
variable {p : Program} {l : Launch} {e : Env} {s : State} {m : MethodId} {args : Array Value} {below : List Frame} {meth : Method} {c : Code} {H : Heap} {locs : List Loc} {Q : State → Prop} {D : va_G} {cI cZ cJ : ClassId} {A : Nat → Prop} {ls : Array Slot}
def wp_X7_make_89 (Q1 : Int32 → zSt → Prop) (x1 : Int32) (x2 : Int32) (x3 : Int32) (x4 : Int32) (t0 : Int32) (u7 : zSt) : Prop :=
  TX7_throwsIf (fun (r_2 : Int32) (u7_1 : zSt) => (r_2 = (0 : Int32) → vp_in x1 12 ∧ (((u7_1.2 13 x1.toNatClampNeg) < x4 → Q1 (-1) u7_1) ∧ (¬ (u7_1.2 13 x1.toNatClampNeg) < x4 → vp_in x2 12 ∧ (((u7_1.2 13 x2.toNatClampNeg) < x4 → Q1 (-1) u7_1) ∧ (¬ (u7_1.2 13 x2.toNatClampNeg) < x4 → vp_in x3 12 ∧ (((u7_1.2 13 x3.toNatClampNeg) < x4 → Q1 (-1) u7_1) ∧ (¬ (u7_1.2 13 x3.toNatClampNeg) < x4 → ((u7_1.1 19) = (60 : Int32) → Q1 (-1) u7_1) ∧ (¬ (u7_1.1 19) = (60 : Int32) → TX7_uses (fun (u7_3 : zSt) => TX7_uses (fun (u7_5 : zSt) => TX7_uses (fun (u7_7 : zSt) => ∀ u7_9 : zSt, u7_9 = zI u7_7 20 ((u7_7.1 20) + x4) → vp_in (u7_9.1 19) 60 ∧ (∀ u7_10 : zSt, u7_10 = zA u7_9 18 (upd (u7_9.2 18) (u7_9.1 19).toNatClampNeg ((((1 : Int32) <<< ((x1 : Int32) &&& 31)) ||| ((1 : Int32) <<< ((x2 : Int32) &&& 31))) ||| ((1 : Int32) <<< ((x3 : Int32) &&& 31)))) → ∀ u7_11 : zSt, u7_11 = zI u7_10 19 ((u7_10.1 19) + 1) → Q1 ((u7_11.1 19) - 1) u7_11)) x3 x4 u7_5) x2 x4 u7_3) x1 x4 u7_1)))))))) ∧ (¬ r_2 = (0 : Int32) → Q1 0 u7_1)) t0 2 u7

set_option maxHeartbeats 4000000 in
set_option maxRecDepth 100000 in
theorem bk_X7_make_89 {a : Nat → Nat → Nat} {Q1 : Int32 → zSt → Prop} {x1 : Int32} {x2 : Int32} {x3 : Int32} {x4 : Int32} {t0 : Int32} {u7 : zSt} (C : zCx p s m args c cX7_make 5 RX7 wsX7_make D cI cZ cJ A) (Y : zDy D A s.heap (k7 a cI cZ u7) H locs) (hl : lv_has ls 5 [(0, .ref (a 7 99)), (1, .int x1), (2, .int x2), (3, .int x3), (4, .int x4)]) (hret : ∀ {pc : Nat} {H : Heap} {locs : List Loc} {ls : Array Slot} {r : Int32} {u : zSt}, zDy D A s.heap ((fun u : zSt => k7 a cI cZ u) u) H locs → Q1 r u → decode cX7_make pc = .ok (.ireturn, 1) → W p l e ({ frames := 2, cells := 0, slots := 0, locals := 43 } : Room) s m args below meth c H locs 0 0 Q (F0 m pc ls [.int r])) (hv : wp_X7_make_89 Q1 x1 x2 x3 x4 t0 u7) : W p l e ({ frames := 2, cells := 0, slots := 0, locals := 43 } : Room) s m args below meth c H locs 0 0 Q (F0 m 89 ls [.int t0, .ref (a 7 99)]) := by
  unfold wp_X7_make_89 at hv
  obtain ⟨hx, hb, hml, hown, hts, hK, hA⟩ := id C
  refine lv_iconst (v := 2) hx hb dX7_make_89 (by decide) ?_
  refine z_callVi C Y (c_X7_throwsIf l hv) (zFr.self _ _) (cwV 2 hts gX7_make_X7_throwsIf rfl rfl rfl (by decide +kernel) ⟨(Nat.le_of_ble_eq_true rfl), (Nat.le_of_ble_eq_true rfl)⟩) (ge7_7 ..) rfl rfl rfl hl.1 rfl (Nat.le_of_ble_eq_true rfl) dX7_make_90 ⟨Nat.zero_le _, Nat.zero_le _⟩ (fun r_2 u7_1 H locs Y hv => ?_)
  refine lv_if_eq (tgt := 98) hx hb dX7_make_93 (by decide) (fun hc => ?_) (fun hc => ?_)
  · have hv := hv.1 hc
    refine lv_aload_n hx hb dX7_make_98 rfl (lv_at hl 0 rfl) ?_
    refine z_get C Y (Cn := RX7) (T := TX7) (N := 42) in_X7_make_7 rfl (ge7_7 ..) 13 (by decide) fl_X7_make_31 rfl dX7_make_99 ?_
    refine lv_iload_n hx hb dX7_make_102 rfl (lv_at hl 1 rfl) ?_
    obtain ⟨hi, hv⟩ := hv
    refine z_ldI C Y (pa7_7_13 ..) hi dX7_make_103 ?_
    refine lv_iload hx hb dX7_make_104 (lv_at hl 4 rfl) ?_
    refine lv_icmp_lt (tgt := 140) hx hb dX7_make_106 (by decide) (fun hc => ?_) (fun hc => ?_)
    · have hv := hv.1 hc
      refine lv_iconst (v := (-1)) hx hb dX7_make_140 (by decide) ?_
      exact hret Y hv dX7_make_141
    · have hv := hv.2 hc
      refine lv_aload_n hx hb dX7_make_109 rfl (lv_at hl 0 rfl) ?_
      refine z_get C Y (Cn := RX7) (T := TX7) (N := 42) in_X7_make_7 rfl (ge7_7 ..) 13 (by decide) fl_X7_make_31 rfl dX7_make_110 ?_
      refine lv_iload_n hx hb dX7_make_113 rfl (lv_at hl 2 rfl) ?_
      obtain ⟨hi, hv⟩ := hv
      refine z_ldI C Y (pa7_7_13 ..) hi dX7_make_114 ?_
      refine lv_iload hx hb dX7_make_115 (lv_at hl 4 rfl) ?_
      refine lv_icmp_lt (tgt := 140) hx hb dX7_make_117 (by decide) (fun hc => ?_) (fun hc => ?_)
      · have hv := hv.1 hc
        refine lv_iconst (v := (-1)) hx hb dX7_make_140 (by decide) ?_
        exact hret Y hv dX7_make_141
      · have hv := hv.2 hc
        refine lv_aload_n hx hb dX7_make_120 rfl (lv_at hl 0 rfl) ?_
        refine z_get C Y (Cn := RX7) (T := TX7) (N := 42) in_X7_make_7 rfl (ge7_7 ..) 13 (by decide) fl_X7_make_31 rfl dX7_make_121 ?_
        refine lv_iload_n hx hb dX7_make_124 rfl (lv_at hl 3 rfl) ?_
        obtain ⟨hi, hv⟩ := hv
        refine z_ldI C Y (pa7_7_13 ..) hi dX7_make_125 ?_
        refine lv_iload hx hb dX7_make_126 (lv_at hl 4 rfl) ?_
        refine lv_icmp_lt (tgt := 140) hx hb dX7_make_128 (by decide) (fun hc => ?_) (fun hc => ?_)
        · have hv := hv.1 hc
          refine lv_iconst (v := (-1)) hx hb dX7_make_140 (by decide) ?_
          exact hret Y hv dX7_make_141
        · have hv := hv.2 hc
          refine lv_aload_n hx hb dX7_make_131 rfl (lv_at hl 0 rfl) ?_
          refine z_get C Y (Cn := RX7) (T := TX7) (N := 42) in_X7_make_7 rfl (ge7_7 ..) 19 (by decide) fl_X7_make_142 rfl dX7_make_132 ?_
          refine lv_bipush (v := 60) hx hb dX7_make_135 (by decide) ?_
          refine lv_icmp_ne (tgt := 142) hx hb dX7_make_137 (by decide) (fun hc => ?_) (fun hc => ?_)
          · have hv := hv.2 hc
            refine lv_aload_n hx hb dX7_make_142 rfl (lv_at hl 0 rfl) ?_
            refine lv_iload_n hx hb dX7_make_143 rfl (lv_at hl 1 rfl) ?_
            refine lv_iload hx hb dX7_make_144 (lv_at hl 4 rfl) ?_
            refine z_callVv C Y (c_X7_uses l hv) (zFr.self _ _) (cwV 2 hts gX7_make_X7_uses rfl rfl rfl (by decide +kernel) ⟨(Nat.le_of_ble_eq_true rfl), (Nat.le_of_ble_eq_true rfl)⟩) (ge7_7 ..) rfl rfl rfl hl.1 rfl (Nat.le_of_ble_eq_true rfl) dX7_make_146 ⟨Nat.zero_le _, Nat.zero_le _⟩ (fun u7_3 H locs Y hv => ?_)
            refine lv_aload_n hx hb dX7_make_149 rfl (lv_at hl 0 rfl) ?_
            refine lv_iload_n hx hb dX7_make_150 rfl (lv_at hl 2 rfl) ?_
            refine lv_iload hx hb dX7_make_151 (lv_at hl 4 rfl) ?_
            refine z_callVv C Y (c_X7_uses l hv) (zFr.self _ _) (cwV 2 hts gX7_make_X7_uses rfl rfl rfl (by decide +kernel) ⟨(Nat.le_of_ble_eq_true rfl), (Nat.le_of_ble_eq_true rfl)⟩) (ge7_7 ..) rfl rfl rfl hl.1 rfl (Nat.le_of_ble_eq_true rfl) dX7_make_153 ⟨Nat.zero_le _, Nat.zero_le _⟩ (fun u7_5 H locs Y hv => ?_)
            refine lv_aload_n hx hb dX7_make_156 rfl (lv_at hl 0 rfl) ?_
            refine lv_iload_n hx hb dX7_make_157 rfl (lv_at hl 3 rfl) ?_
            refine lv_iload hx hb dX7_make_158 (lv_at hl 4 rfl) ?_
            refine z_callVv C Y (c_X7_uses l hv) (zFr.self _ _) (cwV 2 hts gX7_make_X7_uses rfl rfl rfl (by decide +kernel) ⟨(Nat.le_of_ble_eq_true rfl), (Nat.le_of_ble_eq_true rfl)⟩) (ge7_7 ..) rfl rfl rfl hl.1 rfl (Nat.le_of_ble_eq_true rfl) dX7_make_160 ⟨Nat.zero_le _, Nat.zero_le _⟩ (fun u7_7 H locs Y hv => ?_)
            refine lv_aload_n hx hb dX7_make_163 rfl (lv_at hl 0 rfl) ?_
            refine lv_dup hx hb dX7_make_164 rfl ?_
            refine z_get C Y (Cn := RX7) (T := TX7) (N := 42) in_X7_make_7 rfl (ge7_7 ..) 20 (by decide) fl_X7_make_149 rfl dX7_make_165 ?_
            refine lv_iload hx hb dX7_make_168 (lv_at hl 4 rfl) ?_
            refine lv_iadd hx hb dX7_make_170 ?_
            refine z_putI C Y (Cn := RX7) (T := TX7) (N := 42) in_X7_make_7 rfl tyX7 tyX7_ok nmX7 (ge7_7 ..) 20 (by decide) fl_X7_make_149 rfl (by decide +kernel) (Nat.le_of_ble_eq_true rfl) (si7_7_20 ..) dX7_make_171 (fun H locs Y => ?_)
            obtain ⟨u7_9, eu7_9, Y, hv⟩ := z_nm (kf := fun z => (k7 a cI cZ z)) Y hv
            refine lv_aload_n hx hb dX7_make_174 rfl (lv_at hl 0 rfl) ?_
            refine z_get C Y (Cn := RX7) (T := TX7) (N := 42) in_X7_make_7 rfl (ge7_7 ..) 18 (by decide) fl_X7_make_43 rfl dX7_make_175 ?_
            refine lv_aload_n hx hb dX7_make_178 rfl (lv_at hl 0 rfl) ?_
            refine z_get C Y (Cn := RX7) (T := TX7) (N := 42) in_X7_make_7 rfl (ge7_7 ..) 19 (by decide) fl_X7_make_142 rfl dX7_make_179 ?_
            refine lv_iconst (v := 1) hx hb dX7_make_182 (by decide) ?_
            refine lv_iload_n hx hb dX7_make_183 rfl (lv_at hl 1 rfl) ?_
            refine lv_ishl hx hb dX7_make_184 ?_
            refine lv_iconst (v := 1) hx hb dX7_make_185 (by decide) ?_
            refine lv_iload_n hx hb dX7_make_186 rfl (lv_at hl 2 rfl) ?_
            refine lv_ishl hx hb dX7_make_187 ?_
            refine lv_ior hx hb dX7_make_188 ?_
            refine lv_iconst (v := 1) hx hb dX7_make_189 (by decide) ?_
            refine lv_iload_n hx hb dX7_make_190 rfl (lv_at hl 3 rfl) ?_
            refine lv_ishl hx hb dX7_make_191 ?_
            refine lv_ior hx hb dX7_make_192 ?_
            obtain ⟨hi, hv⟩ := hv
            refine z_stI C Y (pa7_7_18 ..) (sa7_7_18 ..) hi dX7_make_193 (fun H locs Y => ?_)
            obtain ⟨u7_10, eu7_10, Y, hv⟩ := z_nm (kf := fun z => (k7 a cI cZ z)) Y hv
            refine lv_aload_n hx hb dX7_make_194 rfl (lv_at hl 0 rfl) ?_
            refine lv_dup hx hb dX7_make_195 rfl ?_
            refine z_get C Y (Cn := RX7) (T := TX7) (N := 42) in_X7_make_7 rfl (ge7_7 ..) 19 (by decide) fl_X7_make_142 rfl dX7_make_196 ?_
            refine lv_iconst (v := 1) hx hb dX7_make_199 (by decide) ?_
            refine lv_iadd hx hb dX7_make_200 ?_
            refine z_putI C Y (Cn := RX7) (T := TX7) (N := 42) in_X7_make_7 rfl tyX7 tyX7_ok nmX7 (ge7_7 ..) 19 (by decide) fl_X7_make_142 rfl (by decide +kernel) (Nat.le_of_ble_eq_true rfl) (si7_7_19 ..) dX7_make_201 (fun H locs Y => ?_)
            obtain ⟨u7_11, eu7_11, Y, hv⟩ := z_nm (kf := fun z => (k7 a cI cZ z)) Y hv
            refine lv_aload_n hx hb dX7_make_204 rfl (lv_at hl 0 rfl) ?_
            refine z_get C Y (Cn := RX7) (T := TX7) (N := 42) in_X7_make_7 rfl (ge7_7 ..) 19 (by decide) fl_X7_make_142 rfl dX7_make_205 ?_
            refine lv_iconst (v := 1) hx hb dX7_make_208 (by decide) ?_
            refine lv_isub hx hb dX7_make_209 ?_
            exact hret Y hv dX7_make_210
          · have hv := hv.1 hc
            refine lv_iconst (v := (-1)) hx hb dX7_make_140 (by decide) ?_
            exact hret Y hv dX7_make_141
  · have hv := hv.2 hc
    refine lv_iconst (v := 0) hx hb dX7_make_96 (by decide) ?_
    exact hret Y hv dX7_make_97

def wp_X7_make_84 (Q1 : Int32 → zSt → Prop) (x1 : Int32) (x2 : Int32) (x3 : Int32) (x4 : Int32) (u7 : zSt) : Prop :=
  wp_X7_make_89 Q1 x1 x2 x3 x4 1 u7

set_option maxHeartbeats 4000000 in
set_option maxRecDepth 100000 in
theorem bk_X7_make_84 {a : Nat → Nat → Nat} {Q1 : Int32 → zSt → Prop} {x1 : Int32} {x2 : Int32} {x3 : Int32} {x4 : Int32} {u7 : zSt} (C : zCx p s m args c cX7_make 5 RX7 wsX7_make D cI cZ cJ A) (Y : zDy D A s.heap (k7 a cI cZ u7) H locs) (hl : lv_has ls 5 [(0, .ref (a 7 99)), (1, .int x1), (2, .int x2), (3, .int x3), (4, .int x4)]) (hret : ∀ {pc : Nat} {H : Heap} {locs : List Loc} {ls : Array Slot} {r : Int32} {u : zSt}, zDy D A s.heap ((fun u : zSt => k7 a cI cZ u) u) H locs → Q1 r u → decode cX7_make pc = .ok (.ireturn, 1) → W p l e ({ frames := 2, cells := 0, slots := 0, locals := 43 } : Room) s m args below meth c H locs 0 0 Q (F0 m pc ls [.int r])) (hv : wp_X7_make_84 Q1 x1 x2 x3 x4 u7) : W p l e ({ frames := 2, cells := 0, slots := 0, locals := 43 } : Room) s m args below meth c H locs 0 0 Q (F0 m 84 ls [.ref (a 7 99)]) := by
  unfold wp_X7_make_84 at hv
  obtain ⟨hx, hb, hml, hown, hts, hK, hA⟩ := id C
  refine lv_iconst (v := 1) hx hb dX7_make_84 (by decide) ?_
  refine lv_goto (tgt := 89) hx hb dX7_make_85 (by decide) ?_
  exact bk_X7_make_89 C Y (lv_sub hl [0, 1, 2, 3, 4] rfl) hret hv

def wp_X7_make_35 (Q1 : Int32 → zSt → Prop) (x1 : Int32) (x2 : Int32) (x3 : Int32) (x4 : Int32) (t0 : Int32) (u7 : zSt) : Prop :=
  TX7_throwsIf (fun (r_2 : Int32) (u7_1 : zSt) => (r_2 = (0 : Int32) → TX7_in (fun (r_3 : Int32) (_ : Unit) => (r_3 = (0 : Int32) → wp_X7_make_84 Q1 x1 x2 x3 x4 u7_1) ∧ (¬ r_3 = (0 : Int32) → vp_in x1 12 ∧ (((u7_1.2 12 x1.toNatClampNeg) = (0 : Int32) → vp_in x2 12 ∧ (((u7_1.2 12 x2.toNatClampNeg) = (1 : Int32) → vp_in x3 12 ∧ (((u7_1.2 12 x3.toNatClampNeg) = (2 : Int32) → wp_X7_make_89 Q1 x1 x2 x3 x4 0 u7_1) ∧ (¬ (u7_1.2 12 x3.toNatClampNeg) = (2 : Int32) → wp_X7_make_84 Q1 x1 x2 x3 x4 u7_1))) ∧ (¬ (u7_1.2 12 x2.toNatClampNeg) = (1 : Int32) → wp_X7_make_84 Q1 x1 x2 x3 x4 u7_1))) ∧ (¬ (u7_1.2 12 x1.toNatClampNeg) = (0 : Int32) → wp_X7_make_84 Q1 x1 x2 x3 x4 u7_1)))) x4 1 1000 ) ∧ (¬ r_2 = (0 : Int32) → Q1 0 u7_1)) t0 1 u7

set_option maxHeartbeats 4000000 in
set_option maxRecDepth 100000 in
theorem bk_X7_make_35 {a : Nat → Nat → Nat} {Q1 : Int32 → zSt → Prop} {x1 : Int32} {x2 : Int32} {x3 : Int32} {x4 : Int32} {t0 : Int32} {u7 : zSt} (C : zCx p s m args c cX7_make 5 RX7 wsX7_make D cI cZ cJ A) (Y : zDy D A s.heap (k7 a cI cZ u7) H locs) (hl : lv_has ls 5 [(0, .ref (a 7 99)), (1, .int x1), (2, .int x2), (3, .int x3), (4, .int x4)]) (hret : ∀ {pc : Nat} {H : Heap} {locs : List Loc} {ls : Array Slot} {r : Int32} {u : zSt}, zDy D A s.heap ((fun u : zSt => k7 a cI cZ u) u) H locs → Q1 r u → decode cX7_make pc = .ok (.ireturn, 1) → W p l e ({ frames := 2, cells := 0, slots := 0, locals := 43 } : Room) s m args below meth c H locs 0 0 Q (F0 m pc ls [.int r])) (hv : wp_X7_make_35 Q1 x1 x2 x3 x4 t0 u7) : W p l e ({ frames := 2, cells := 0, slots := 0, locals := 43 } : Room) s m args below meth c H locs 0 0 Q (F0 m 35 ls [.int t0, .ref (a 7 99)]) := by
  unfold wp_X7_make_35 at hv
  obtain ⟨hx, hb, hml, hown, hts, hK, hA⟩ := id C
  refine lv_iconst (v := 1) hx hb dX7_make_35 (by decide) ?_
  refine z_callVi C Y (c_X7_throwsIf l hv) (zFr.self _ _) (cwV 2 hts gX7_make_X7_throwsIf rfl rfl rfl (by decide +kernel) ⟨(Nat.le_of_ble_eq_true rfl), (Nat.le_of_ble_eq_true rfl)⟩) (ge7_7 ..) rfl rfl rfl hl.1 rfl (Nat.le_of_ble_eq_true rfl) dX7_make_36 ⟨Nat.zero_le _, Nat.zero_le _⟩ (fun r_2 u7_1 H locs Y hv => ?_)
  refine lv_if_ne (tgt := 96) hx hb dX7_make_39 (by decide) (fun hc => ?_) (fun hc => ?_)
  · have hv := hv.2 hc
    refine lv_iconst (v := 0) hx hb dX7_make_96 (by decide) ?_
    exact hret Y hv dX7_make_97
  · have hv := hv.1 hc
    refine lv_aload_n hx hb dX7_make_42 rfl (lv_at hl 0 rfl) ?_
    refine lv_iload hx hb dX7_make_43 (lv_at hl 4 rfl) ?_
    refine lv_iconst (v := 1) hx hb dX7_make_45 (by decide) ?_
    refine lv_sipush (v := 1000) hx hb dX7_make_46 (by decide) ?_
    refine z_callSi C Y (c_X7_in l hv) (zFr.nil _) (va_cwS 3 hts gX7_make_X7_in rfl rfl rfl (by decide +kernel) ⟨(Nat.le_of_ble_eq_true rfl), (Nat.le_of_ble_eq_true rfl)⟩) rfl hl.1 rfl (Nat.le_of_ble_eq_true rfl) dX7_make_49 ⟨Nat.zero_le _, Nat.zero_le _⟩ (fun r_3 _ H locs Y hv => ?_)
    refine lv_if_eq (tgt := 84) hx hb dX7_make_52 (by decide) (fun hc => ?_) (fun hc => ?_)
    · have hv := hv.1 hc
      exact bk_X7_make_84 C Y (lv_sub hl [0, 1, 2, 3, 4] rfl) hret hv
    · have hv := hv.2 hc
      refine lv_aload_n hx hb dX7_make_55 rfl (lv_at hl 0 rfl) ?_
      refine z_get C Y (Cn := RX7) (T := TX7) (N := 42) in_X7_make_7 rfl (ge7_7 ..) 12 (by decide) fl_X7_make_28 rfl dX7_make_56 ?_
      refine lv_iload_n hx hb dX7_make_59 rfl (lv_at hl 1 rfl) ?_
      obtain ⟨hi, hv⟩ := hv
      refine z_ldI C Y (pa7_7_12 ..) hi dX7_make_60 ?_
      refine lv_if_ne (tgt := 84) hx hb dX7_make_61 (by decide) (fun hc => ?_) (fun hc => ?_)
      · have hv := hv.2 hc
        exact bk_X7_make_84 C Y (lv_sub hl [0, 1, 2, 3, 4] rfl) hret hv
      · have hv := hv.1 hc
        refine lv_aload_n hx hb dX7_make_64 rfl (lv_at hl 0 rfl) ?_
        refine z_get C Y (Cn := RX7) (T := TX7) (N := 42) in_X7_make_7 rfl (ge7_7 ..) 12 (by decide) fl_X7_make_28 rfl dX7_make_65 ?_
        refine lv_iload_n hx hb dX7_make_68 rfl (lv_at hl 2 rfl) ?_
        obtain ⟨hi, hv⟩ := hv
        refine z_ldI C Y (pa7_7_12 ..) hi dX7_make_69 ?_
        refine lv_iconst (v := 1) hx hb dX7_make_70 (by decide) ?_
        refine lv_icmp_ne (tgt := 84) hx hb dX7_make_71 (by decide) (fun hc => ?_) (fun hc => ?_)
        · have hv := hv.2 hc
          exact bk_X7_make_84 C Y (lv_sub hl [0, 1, 2, 3, 4] rfl) hret hv
        · have hv := hv.1 hc
          refine lv_aload_n hx hb dX7_make_74 rfl (lv_at hl 0 rfl) ?_
          refine z_get C Y (Cn := RX7) (T := TX7) (N := 42) in_X7_make_7 rfl (ge7_7 ..) 12 (by decide) fl_X7_make_28 rfl dX7_make_75 ?_
          refine lv_iload_n hx hb dX7_make_78 rfl (lv_at hl 3 rfl) ?_
          obtain ⟨hi, hv⟩ := hv
          refine z_ldI C Y (pa7_7_12 ..) hi dX7_make_79 ?_
          refine lv_iconst (v := 2) hx hb dX7_make_80 (by decide) ?_
          refine lv_icmp_eq (tgt := 88) hx hb dX7_make_81 (by decide) (fun hc => ?_) (fun hc => ?_)
          · have hv := hv.1 hc
            refine lv_iconst (v := 0) hx hb dX7_make_88 (by decide) ?_
            exact bk_X7_make_89 C Y (lv_sub hl [0, 1, 2, 3, 4] rfl) hret hv
          · have hv := hv.2 hc
            exact bk_X7_make_84 C Y (lv_sub hl [0, 1, 2, 3, 4] rfl) hret hv

def wp_X7_make_30 (Q1 : Int32 → zSt → Prop) (x1 : Int32) (x2 : Int32) (x3 : Int32) (x4 : Int32) (u7 : zSt) : Prop :=
  wp_X7_make_35 Q1 x1 x2 x3 x4 1 u7

set_option maxHeartbeats 4000000 in
set_option maxRecDepth 100000 in
theorem bk_X7_make_30 {a : Nat → Nat → Nat} {Q1 : Int32 → zSt → Prop} {x1 : Int32} {x2 : Int32} {x3 : Int32} {x4 : Int32} {u7 : zSt} (C : zCx p s m args c cX7_make 5 RX7 wsX7_make D cI cZ cJ A) (Y : zDy D A s.heap (k7 a cI cZ u7) H locs) (hl : lv_has ls 5 [(0, .ref (a 7 99)), (1, .int x1), (2, .int x2), (3, .int x3), (4, .int x4)]) (hret : ∀ {pc : Nat} {H : Heap} {locs : List Loc} {ls : Array Slot} {r : Int32} {u : zSt}, zDy D A s.heap ((fun u : zSt => k7 a cI cZ u) u) H locs → Q1 r u → decode cX7_make pc = .ok (.ireturn, 1) → W p l e ({ frames := 2, cells := 0, slots := 0, locals := 43 } : Room) s m args below meth c H locs 0 0 Q (F0 m pc ls [.int r])) (hv : wp_X7_make_30 Q1 x1 x2 x3 x4 u7) : W p l e ({ frames := 2, cells := 0, slots := 0, locals := 43 } : Room) s m args below meth c H locs 0 0 Q (F0 m 30 ls [.ref (a 7 99)]) := by
  unfold wp_X7_make_30 at hv
  obtain ⟨hx, hb, hml, hown, hts, hK, hA⟩ := id C
  refine lv_iconst (v := 1) hx hb dX7_make_30 (by decide) ?_
  refine lv_goto (tgt := 35) hx hb dX7_make_31 (by decide) ?_
  exact bk_X7_make_35 C Y (lv_sub hl [0, 1, 2, 3, 4] rfl) hret hv

def wp_X7_make_0 (Q1 : Int32 → zSt → Prop) (p1 : Int32) (p2 : Int32) (p3 : Int32) (p4 : Int32) (u7 : zSt) : Prop :=
  ∀ u7_1 : zSt, u7_1 = zI u7 0 0 → TX7_noLot (fun (r_3 : Int32) (u7_2 : zSt) => (r_3 = (0 : Int32) → TX7_noLot (fun (r_5 : Int32) (u7_4 : zSt) => (r_5 = (0 : Int32) → TX7_noLot (fun (r_7 : Int32) (u7_6 : zSt) => (r_7 = (0 : Int32) → wp_X7_make_35 Q1 p1 p2 p3 p4 0 u7_6) ∧ (¬ r_7 = (0 : Int32) → wp_X7_make_30 Q1 p1 p2 p3 p4 u7_6)) p3 u7_4) ∧ (¬ r_5 = (0 : Int32) → wp_X7_make_30 Q1 p1 p2 p3 p4 u7_4)) p2 u7_2) ∧ (¬ r_3 = (0 : Int32) → wp_X7_make_30 Q1 p1 p2 p3 p4 u7_2)) p1 u7_1

set_option maxHeartbeats 4000000 in
set_option maxRecDepth 100000 in
theorem bk_X7_make_0 {a : Nat → Nat → Nat} {Q1 : Int32 → zSt → Prop} {p1 : Int32} {p2 : Int32} {p3 : Int32} {p4 : Int32} {u7 : zSt} (C : zCx p s m args c cX7_make 5 RX7 wsX7_make D cI cZ cJ A) (Y : zDy D A s.heap (k7 a cI cZ u7) H locs) (hl : lv_has ls 5 [(0, .ref (a 7 99)), (1, .int p1), (2, .int p2), (3, .int p3), (4, .int p4)]) (hret : ∀ {pc : Nat} {H : Heap} {locs : List Loc} {ls : Array Slot} {r : Int32} {u : zSt}, zDy D A s.heap ((fun u : zSt => k7 a cI cZ u) u) H locs → Q1 r u → decode cX7_make pc = .ok (.ireturn, 1) → W p l e ({ frames := 2, cells := 0, slots := 0, locals := 43 } : Room) s m args below meth c H locs 0 0 Q (F0 m pc ls [.int r])) (hv : wp_X7_make_0 Q1 p1 p2 p3 p4 u7) : W p l e ({ frames := 2, cells := 0, slots := 0, locals := 43 } : Room) s m args below meth c H locs 0 0 Q (F0 m 0 ls []) := by
  unfold wp_X7_make_0 at hv
  obtain ⟨hx, hb, hml, hown, hts, hK, hA⟩ := id C
  refine lv_aload_n hx hb dX7_make_0 rfl (lv_at hl 0 rfl) ?_
  refine lv_iconst (v := 0) hx hb dX7_make_1 (by decide) ?_
  refine z_putI C Y (Cn := RX7) (T := TX7) (N := 42) in_X7_make_7 rfl tyX7 tyX7_ok nmX7 (ge7_7 ..) 0 (by decide) fl_X7_make_93 rfl (by decide +kernel) (Nat.le_of_ble_eq_true rfl) (si7_7_0 ..) dX7_make_2 (fun H locs Y => ?_)
  obtain ⟨u7_1, eu7_1, Y, hv⟩ := z_nm (kf := fun z => (k7 a cI cZ z)) Y hv
  refine lv_aload_n hx hb dX7_make_5 rfl (lv_at hl 0 rfl) ?_
  refine lv_aload_n hx hb dX7_make_6 rfl (lv_at hl 0 rfl) ?_
  refine lv_iload_n hx hb dX7_make_7 rfl (lv_at hl 1 rfl) ?_
  refine z_callVi C Y (c_X7_noLot l hv) (zFr.self _ _) (cwV 1 hts gX7_make_X7_noLot rfl rfl rfl (by decide +kernel) ⟨(Nat.le_of_ble_eq_true rfl), (Nat.le_of_ble_eq_true rfl)⟩) (ge7_7 ..) rfl rfl rfl hl.1 rfl (Nat.le_of_ble_eq_true rfl) dX7_make_8 ⟨Nat.zero_le _, Nat.zero_le _⟩ (fun r_3 u7_2 H locs Y hv => ?_)
  refine lv_if_ne (tgt := 30) hx hb dX7_make_11 (by decide) (fun hc => ?_) (fun hc => ?_)
  · have hv := hv.2 hc
    exact bk_X7_make_30 C Y (lv_sub hl [0, 1, 2, 3, 4] rfl) hret hv
  · have hv := hv.1 hc
    refine lv_aload_n hx hb dX7_make_14 rfl (lv_at hl 0 rfl) ?_
    refine lv_iload_n hx hb dX7_make_15 rfl (lv_at hl 2 rfl) ?_
    refine z_callVi C Y (c_X7_noLot l hv) (zFr.self _ _) (cwV 1 hts gX7_make_X7_noLot rfl rfl rfl (by decide +kernel) ⟨(Nat.le_of_ble_eq_true rfl), (Nat.le_of_ble_eq_true rfl)⟩) (ge7_7 ..) rfl rfl rfl hl.1 rfl (Nat.le_of_ble_eq_true rfl) dX7_make_16 ⟨Nat.zero_le _, Nat.zero_le _⟩ (fun r_5 u7_4 H locs Y hv => ?_)
    refine lv_if_ne (tgt := 30) hx hb dX7_make_19 (by decide) (fun hc => ?_) (fun hc => ?_)
    · have hv := hv.2 hc
      exact bk_X7_make_30 C Y (lv_sub hl [0, 1, 2, 3, 4] rfl) hret hv
    · have hv := hv.1 hc
      refine lv_aload_n hx hb dX7_make_22 rfl (lv_at hl 0 rfl) ?_
      refine lv_iload_n hx hb dX7_make_23 rfl (lv_at hl 3 rfl) ?_
      refine z_callVi C Y (c_X7_noLot l hv) (zFr.self _ _) (cwV 1 hts gX7_make_X7_noLot rfl rfl rfl (by decide +kernel) ⟨(Nat.le_of_ble_eq_true rfl), (Nat.le_of_ble_eq_true rfl)⟩) (ge7_7 ..) rfl rfl rfl hl.1 rfl (Nat.le_of_ble_eq_true rfl) dX7_make_24 ⟨Nat.zero_le _, Nat.zero_le _⟩ (fun r_7 u7_6 H locs Y hv => ?_)
      refine lv_if_eq (tgt := 34) hx hb dX7_make_27 (by decide) (fun hc => ?_) (fun hc => ?_)
      · have hv := hv.1 hc
        refine lv_iconst (v := 0) hx hb dX7_make_34 (by decide) ?_
        exact bk_X7_make_35 C Y (lv_sub hl [0, 1, 2, 3, 4] rfl) hret hv
      · have hv := hv.2 hc
        exact bk_X7_make_30 C Y (lv_sub hl [0, 1, 2, 3, 4] rfl) hret hv

end
abbrev TX7_make := wp_X7_make_0
set_option maxHeartbeats 4000000 in
set_option maxRecDepth 100000 in
theorem c_X7_make (l : Launch) {D : va_G} {cI cZ cJ : ClassId} {a : Nat → Nat → Nat} {Q1 : Int32 → zSt → Prop} {p1 : Int32} {p2 : Int32} {p3 : Int32} {p4 : Int32} {u7 : zSt} (hv : wp_X7_make_0 Q1 p1 p2 p3 p4 u7) : zMI l yX7_make wsX7_make ({ frames := 2, cells := 0, slots := 0, locals := 43 } : Room) D cI cZ cJ [.ref (a 7 99), .int p1, .int p2, .int p3, .int p4] (k7 a cI cZ u7) (fun u : zSt => k7 a cI cZ u) Q1 :=
  z_ofI (by decide) rfl rfl (Nat.le_of_ble_eq_true rfl) (fun C Y hl hret => bk_X7_make_0 C Y hl hret hv)


theorem in_X7_trial_7 : ∀ w ∈ wsX70, w ∈ wsX7_trial := by first | exact fun w h => List.mem_cons_of_mem _ (List.mem_append_right _ h) | exact fun w h => List.mem_cons_of_mem _ (List.mem_append_left _ (List.mem_append_right _ h)) | decide +kernel
theorem fl_X7_trial_46 : Cond.fieldLink RX7 46 (TX7 21).1 (TX7 21).2.1 (TX7 21).2.2.1 ∈ wsX7_trial := by decide +kernel
theorem fl_X7_trial_49 : Cond.fieldLink RX7 49 (TX7 22).1 (TX7 22).2.1 (TX7 22).2.2.1 ∈ wsX7_trial := by decide +kernel
theorem fl_X7_trial_53 : Cond.fieldLink RX7 53 (TX7 23).1 (TX7 23).2.1 (TX7 23).2.2.1 ∈ wsX7_trial := by decide +kernel
theorem fl_X7_trial_56 : Cond.fieldLink RX7 56 (TX7 24).1 (TX7 24).2.1 (TX7 24).2.2.1 ∈ wsX7_trial := by decide +kernel
theorem fl_X7_trial_93 : Cond.fieldLink RX7 93 (TX7 0).1 (TX7 0).2.1 (TX7 0).2.2.1 ∈ wsX7_trial := by decide +kernel
theorem fl_X7_trial_142 : Cond.fieldLink RX7 142 (TX7 19).1 (TX7 19).2.1 (TX7 19).2.2.1 ∈ wsX7_trial := by decide +kernel
theorem fl_X7_trial_152 : Cond.fieldLink RX7 152 (TX7 25).1 (TX7 25).2.1 (TX7 25).2.2.1 ∈ wsX7_trial := by decide +kernel
theorem fl_X7_trial_155 : Cond.fieldLink RX7 155 (TX7 1).1 (TX7 1).2.1 (TX7 1).2.2.1 ∈ wsX7_trial := by decide +kernel
section
variable {p : Program} {l : Launch} {e : Env} {s : State} {m : MethodId} {args : Array Value} {below : List Frame} {meth : Method} {c : Code} {H : Heap} {locs : List Loc} {Q : State → Prop} {D : va_G} {cI cZ cJ : ClassId} {A : Nat → Prop} {ls : Array Slot}
def wp_X7_trial_25 (Q1 : Int32 → zSt → Prop) (x1 : Int32) (x2 : Int32) (t0 : Int32) (u7 : zSt) : Prop :=
  TX7_throwsIf (fun (r_2 : Int32) (u7_1 : zSt) => (r_2 = (0 : Int32) → ((u7_1.1 25) = (100 : Int32) → Q1 (-1) u7_1) ∧ (¬ (u7_1.1 25) = (100 : Int32) → vp_in (u7_1.1 25) 100 ∧ (∀ u7_3 : zSt, u7_3 = zA u7_1 21 (upd (u7_1.2 21) (u7_1.1 25).toNatClampNeg x1) → vp_in (u7_3.1 25) 100 ∧ (∀ u7_4 : zSt, u7_4 = zA u7_3 22 (upd (u7_3.2 22) (u7_3.1 25).toNatClampNeg (vp_nar .boolean x2)) → vp_in (u7_4.1 25) 100 ∧ (∀ u7_5 : zSt, u7_5 = zA u7_4 23 (upd (u7_4.2 23) (u7_4.1 25).toNatClampNeg (u7_4.1 1)) → vp_in (u7_5.1 25) 100 ∧ (∀ u7_6 : zSt, u7_6 = zA u7_5 24 (upd (u7_5.2 24) (u7_5.1 25).toNatClampNeg (-1)) → ∀ u7_7 : zSt, u7_7 = zI u7_6 25 ((u7_6.1 25) + 1) → Q1 ((u7_7.1 25) - 1) u7_7)))))) ∧ (¬ r_2 = (0 : Int32) → Q1 0 u7_1)) t0 1 u7

set_option maxHeartbeats 4000000 in
set_option maxRecDepth 100000 in
theorem bk_X7_trial_25 {a : Nat → Nat → Nat} {Q1 : Int32 → zSt → Prop} {x1 : Int32} {x2 : Int32} {t0 : Int32} {u7 : zSt} (C : zCx p s m args c cX7_trial 3 RX7 wsX7_trial D cI cZ cJ A) (Y : zDy D A s.heap (k7 a cI cZ u7) H locs) (hl : lv_has ls 3 [(0, .ref (a 7 99)), (1, .int x1), (2, .int x2)]) (hret : ∀ {pc : Nat} {H : Heap} {locs : List Loc} {ls : Array Slot} {r : Int32} {u : zSt}, zDy D A s.heap ((fun u : zSt => k7 a cI cZ u) u) H locs → Q1 r u → decode cX7_trial pc = .ok (.ireturn, 1) → W p l e ({ frames := 1, cells := 0, slots := 0, locals := 22 } : Room) s m args below meth c H locs 0 0 Q (F0 m pc ls [.int r])) (hv : wp_X7_trial_25 Q1 x1 x2 t0 u7) : W p l e ({ frames := 1, cells := 0, slots := 0, locals := 22 } : Room) s m args below meth c H locs 0 0 Q (F0 m 25 ls [.int t0, .ref (a 7 99)]) := by
  unfold wp_X7_trial_25 at hv
  obtain ⟨hx, hb, hml, hown, hts, hK, hA⟩ := id C
  refine lv_iconst (v := 1) hx hb dX7_trial_25 (by decide) ?_
  refine z_callVi C Y (c_X7_throwsIf l hv) (zFr.self _ _) (cwV 2 hts gX7_trial_X7_throwsIf rfl rfl rfl (by decide +kernel) ⟨(Nat.le_of_ble_eq_true rfl), (Nat.le_of_ble_eq_true rfl)⟩) (ge7_7 ..) rfl rfl rfl hl.1 rfl (Nat.le_of_ble_eq_true rfl) dX7_trial_26 ⟨Nat.zero_le _, Nat.zero_le _⟩ (fun r_2 u7_1 H locs Y hv => ?_)
  refine lv_if_eq (tgt := 34) hx hb dX7_trial_29 (by decide) (fun hc => ?_) (fun hc => ?_)
  · have hv := hv.1 hc
    refine lv_aload_n hx hb dX7_trial_34 rfl (lv_at hl 0 rfl) ?_
    refine z_get C Y (Cn := RX7) (T := TX7) (N := 42) in_X7_trial_7 rfl (ge7_7 ..) 25 (by decide) fl_X7_trial_152 rfl dX7_trial_35 ?_
    refine lv_bipush (v := 100) hx hb dX7_trial_38 (by decide) ?_
    refine lv_icmp_ne (tgt := 45) hx hb dX7_trial_40 (by decide) (fun hc => ?_) (fun hc => ?_)
    · have hv := hv.2 hc
      refine lv_aload_n hx hb dX7_trial_45 rfl (lv_at hl 0 rfl) ?_
      refine z_get C Y (Cn := RX7) (T := TX7) (N := 42) in_X7_trial_7 rfl (ge7_7 ..) 21 (by decide) fl_X7_trial_46 rfl dX7_trial_46 ?_
      refine lv_aload_n hx hb dX7_trial_49 rfl (lv_at hl 0 rfl) ?_
      refine z_get C Y (Cn := RX7) (T := TX7) (N := 42) in_X7_trial_7 rfl (ge7_7 ..) 25 (by decide) fl_X7_trial_152 rfl dX7_trial_50 ?_
      refine lv_iload_n hx hb dX7_trial_53 rfl (lv_at hl 1 rfl) ?_
      obtain ⟨hi, hv⟩ := hv
      refine z_stI C Y (pa7_7_21 ..) (sa7_7_21 ..) hi dX7_trial_54 (fun H locs Y => ?_)
      obtain ⟨u7_3, eu7_3, Y, hv⟩ := z_nm (kf := fun z => (k7 a cI cZ z)) Y hv
      refine lv_aload_n hx hb dX7_trial_55 rfl (lv_at hl 0 rfl) ?_
      refine z_get C Y (Cn := RX7) (T := TX7) (N := 42) in_X7_trial_7 rfl (ge7_7 ..) 22 (by decide) fl_X7_trial_49 rfl dX7_trial_56 ?_
      refine lv_aload_n hx hb dX7_trial_59 rfl (lv_at hl 0 rfl) ?_
      refine z_get C Y (Cn := RX7) (T := TX7) (N := 42) in_X7_trial_7 rfl (ge7_7 ..) 25 (by decide) fl_X7_trial_152 rfl dX7_trial_60 ?_
      refine lv_iload_n hx hb dX7_trial_63 rfl (lv_at hl 2 rfl) ?_
      obtain ⟨hi, hv⟩ := hv
      refine z_stZ C Y (pa7_7_22 ..) (sa7_7_22 ..) hi dX7_trial_64 (fun H locs Y => ?_)
      obtain ⟨u7_4, eu7_4, Y, hv⟩ := z_nm (kf := fun z => (k7 a cI cZ z)) Y hv
      refine lv_aload_n hx hb dX7_trial_65 rfl (lv_at hl 0 rfl) ?_
      refine z_get C Y (Cn := RX7) (T := TX7) (N := 42) in_X7_trial_7 rfl (ge7_7 ..) 23 (by decide) fl_X7_trial_53 rfl dX7_trial_66 ?_
      refine lv_aload_n hx hb dX7_trial_69 rfl (lv_at hl 0 rfl) ?_
      refine z_get C Y (Cn := RX7) (T := TX7) (N := 42) in_X7_trial_7 rfl (ge7_7 ..) 25 (by decide) fl_X7_trial_152 rfl dX7_trial_70 ?_
      refine lv_aload_n hx hb dX7_trial_73 rfl (lv_at hl 0 rfl) ?_
      refine z_get C Y (Cn := RX7) (T := TX7) (N := 42) in_X7_trial_7 rfl (ge7_7 ..) 1 (by decide) fl_X7_trial_155 rfl dX7_trial_74 ?_
      obtain ⟨hi, hv⟩ := hv
      refine z_stI C Y (pa7_7_23 ..) (sa7_7_23 ..) hi dX7_trial_77 (fun H locs Y => ?_)
      obtain ⟨u7_5, eu7_5, Y, hv⟩ := z_nm (kf := fun z => (k7 a cI cZ z)) Y hv
      refine lv_aload_n hx hb dX7_trial_78 rfl (lv_at hl 0 rfl) ?_
      refine z_get C Y (Cn := RX7) (T := TX7) (N := 42) in_X7_trial_7 rfl (ge7_7 ..) 24 (by decide) fl_X7_trial_56 rfl dX7_trial_79 ?_
      refine lv_aload_n hx hb dX7_trial_82 rfl (lv_at hl 0 rfl) ?_
      refine z_get C Y (Cn := RX7) (T := TX7) (N := 42) in_X7_trial_7 rfl (ge7_7 ..) 25 (by decide) fl_X7_trial_152 rfl dX7_trial_83 ?_
      refine lv_iconst (v := (-1)) hx hb dX7_trial_86 (by decide) ?_
      obtain ⟨hi, hv⟩ := hv
      refine z_stI C Y (pa7_7_24 ..) (sa7_7_24 ..) hi dX7_trial_87 (fun H locs Y => ?_)
      obtain ⟨u7_6, eu7_6, Y, hv⟩ := z_nm (kf := fun z => (k7 a cI cZ z)) Y hv
      refine lv_aload_n hx hb dX7_trial_88 rfl (lv_at hl 0 rfl) ?_
      refine lv_dup hx hb dX7_trial_89 rfl ?_
      refine z_get C Y (Cn := RX7) (T := TX7) (N := 42) in_X7_trial_7 rfl (ge7_7 ..) 25 (by decide) fl_X7_trial_152 rfl dX7_trial_90 ?_
      refine lv_iconst (v := 1) hx hb dX7_trial_93 (by decide) ?_
      refine lv_iadd hx hb dX7_trial_94 ?_
      refine z_putI C Y (Cn := RX7) (T := TX7) (N := 42) in_X7_trial_7 rfl tyX7 tyX7_ok nmX7 (ge7_7 ..) 25 (by decide) fl_X7_trial_152 rfl (by decide +kernel) (Nat.le_of_ble_eq_true rfl) (si7_7_25 ..) dX7_trial_95 (fun H locs Y => ?_)
      obtain ⟨u7_7, eu7_7, Y, hv⟩ := z_nm (kf := fun z => (k7 a cI cZ z)) Y hv
      refine lv_aload_n hx hb dX7_trial_98 rfl (lv_at hl 0 rfl) ?_
      refine z_get C Y (Cn := RX7) (T := TX7) (N := 42) in_X7_trial_7 rfl (ge7_7 ..) 25 (by decide) fl_X7_trial_152 rfl dX7_trial_99 ?_
      refine lv_iconst (v := 1) hx hb dX7_trial_102 (by decide) ?_
      refine lv_isub hx hb dX7_trial_103 ?_
      exact hret Y hv dX7_trial_104
    · have hv := hv.1 hc
      refine lv_iconst (v := (-1)) hx hb dX7_trial_43 (by decide) ?_
      exact hret Y hv dX7_trial_44
  · have hv := hv.2 hc
    refine lv_iconst (v := 0) hx hb dX7_trial_32 (by decide) ?_
    exact hret Y hv dX7_trial_33

def wp_X7_trial_0 (Q1 : Int32 → zSt → Prop) (p1 : Int32) (p2 : Int32) (u7 : zSt) : Prop :=
  ∀ u7_1 : zSt, u7_1 = zI u7 0 0 → TX7_in (fun (r_2 : Int32) (_ : Unit) => (r_2 = (0 : Int32) → wp_X7_trial_25 Q1 p1 p2 1 u7_1) ∧ (¬ r_2 = (0 : Int32) → wp_X7_trial_25 Q1 p1 p2 0 u7_1)) p1 0 ((u7_1.1 19) - 1) 

set_option maxHeartbeats 4000000 in
set_option maxRecDepth 100000 in
theorem bk_X7_trial_0 {a : Nat → Nat → Nat} {Q1 : Int32 → zSt → Prop} {p1 : Int32} {p2 : Int32} {u7 : zSt} (C : zCx p s m args c cX7_trial 3 RX7 wsX7_trial D cI cZ cJ A) (Y : zDy D A s.heap (k7 a cI cZ u7) H locs) (hl : lv_has ls 3 [(0, .ref (a 7 99)), (1, .int p1), (2, .int p2)]) (hret : ∀ {pc : Nat} {H : Heap} {locs : List Loc} {ls : Array Slot} {r : Int32} {u : zSt}, zDy D A s.heap ((fun u : zSt => k7 a cI cZ u) u) H locs → Q1 r u → decode cX7_trial pc = .ok (.ireturn, 1) → W p l e ({ frames := 1, cells := 0, slots := 0, locals := 22 } : Room) s m args below meth c H locs 0 0 Q (F0 m pc ls [.int r])) (hv : wp_X7_trial_0 Q1 p1 p2 u7) : W p l e ({ frames := 1, cells := 0, slots := 0, locals := 22 } : Room) s m args below meth c H locs 0 0 Q (F0 m 0 ls []) := by
  unfold wp_X7_trial_0 at hv
  obtain ⟨hx, hb, hml, hown, hts, hK, hA⟩ := id C
  refine lv_aload_n hx hb dX7_trial_0 rfl (lv_at hl 0 rfl) ?_
  refine lv_iconst (v := 0) hx hb dX7_trial_1 (by decide) ?_
  refine z_putI C Y (Cn := RX7) (T := TX7) (N := 42) in_X7_trial_7 rfl tyX7 tyX7_ok nmX7 (ge7_7 ..) 0 (by decide) fl_X7_trial_93 rfl (by decide +kernel) (Nat.le_of_ble_eq_true rfl) (si7_7_0 ..) dX7_trial_2 (fun H locs Y => ?_)
  obtain ⟨u7_1, eu7_1, Y, hv⟩ := z_nm (kf := fun z => (k7 a cI cZ z)) Y hv
  refine lv_aload_n hx hb dX7_trial_5 rfl (lv_at hl 0 rfl) ?_
  refine lv_iload_n hx hb dX7_trial_6 rfl (lv_at hl 1 rfl) ?_
  refine lv_iconst (v := 0) hx hb dX7_trial_7 (by decide) ?_
  refine lv_aload_n hx hb dX7_trial_8 rfl (lv_at hl 0 rfl) ?_
  refine z_get C Y (Cn := RX7) (T := TX7) (N := 42) in_X7_trial_7 rfl (ge7_7 ..) 19 (by decide) fl_X7_trial_142 rfl dX7_trial_9 ?_
  refine lv_iconst (v := 1) hx hb dX7_trial_12 (by decide) ?_
  refine lv_isub hx hb dX7_trial_13 ?_
  refine z_callSi C Y (c_X7_in l hv) (zFr.nil _) (va_cwS 3 hts gX7_trial_X7_in rfl rfl rfl (by decide +kernel) ⟨(Nat.le_of_ble_eq_true rfl), (Nat.le_of_ble_eq_true rfl)⟩) rfl hl.1 rfl (Nat.le_of_ble_eq_true rfl) dX7_trial_14 ⟨Nat.zero_le _, Nat.zero_le _⟩ (fun r_2 _ H locs Y hv => ?_)
  refine lv_if_ne (tgt := 24) hx hb dX7_trial_17 (by decide) (fun hc => ?_) (fun hc => ?_)
  · have hv := hv.2 hc
    refine lv_iconst (v := 0) hx hb dX7_trial_24 (by decide) ?_
    exact bk_X7_trial_25 C Y (lv_sub hl [0, 1, 2] rfl) hret hv
  · have hv := hv.1 hc
    refine lv_iconst (v := 1) hx hb dX7_trial_20 (by decide) ?_
    refine lv_goto (tgt := 25) hx hb dX7_trial_21 (by decide) ?_
    exact bk_X7_trial_25 C Y (lv_sub hl [0, 1, 2] rfl) hret hv

end
abbrev TX7_trial := wp_X7_trial_0
set_option maxHeartbeats 4000000 in
set_option maxRecDepth 100000 in
theorem c_X7_trial (l : Launch) {D : va_G} {cI cZ cJ : ClassId} {a : Nat → Nat → Nat} {Q1 : Int32 → zSt → Prop} {p1 : Int32} {p2 : Int32} {u7 : zSt} (hv : wp_X7_trial_0 Q1 p1 p2 u7) : zMI l yX7_trial wsX7_trial ({ frames := 1, cells := 0, slots := 0, locals := 22 } : Room) D cI cZ cJ [.ref (a 7 99), .int p1, .int p2] (k7 a cI cZ u7) (fun u : zSt => k7 a cI cZ u) Q1 :=
  z_ofI (by decide) rfl rfl (Nat.le_of_ble_eq_true rfl) (fun C Y hl hret => bk_X7_trial_0 C Y hl hret hv)


theorem in_X7_undo_7 : ∀ w ∈ wsX70, w ∈ wsX7_undo := by first | exact fun w h => List.mem_cons_of_mem _ (List.mem_append_right _ h) | exact fun w h => List.mem_cons_of_mem _ (List.mem_append_left _ (List.mem_append_right _ h)) | decide +kernel
theorem fl_X7_undo_56 : Cond.fieldLink RX7 56 (TX7 24).1 (TX7 24).2.1 (TX7 24).2.2.1 ∈ wsX7_undo := by decide +kernel
theorem fl_X7_undo_93 : Cond.fieldLink RX7 93 (TX7 0).1 (TX7 0).2.1 (TX7 0).2.2.1 ∈ wsX7_undo := by decide +kernel
theorem fl_X7_undo_152 : Cond.fieldLink RX7 152 (TX7 25).1 (TX7 25).2.1 (TX7 25).2.2.1 ∈ wsX7_undo := by decide +kernel
theorem fl_X7_undo_155 : Cond.fieldLink RX7 155 (TX7 1).1 (TX7 1).2.1 (TX7 1).2.2.1 ∈ wsX7_undo := by decide +kernel
section
variable {p : Program} {l : Launch} {e : Env} {s : State} {m : MethodId} {args : Array Value} {below : List Frame} {meth : Method} {c : Code} {H : Heap} {locs : List Loc} {Q : State → Prop} {D : va_G} {cI cZ cJ : ClassId} {A : Nat → Prop} {ls : Array Slot}
def wp_X7_undo_25 (Q1 : Int32 → zSt → Prop) (x1 : Int32) (t0 : Int32) (u7 : zSt) : Prop :=
  TX7_throwsIf (fun (r_2 : Int32) (u7_1 : zSt) => (r_2 = (0 : Int32) → vp_in x1 100 ∧ (((u7_1.2 24 x1.toNatClampNeg) < (0 : Int32) → vp_in x1 100 ∧ (∀ u7_3 : zSt, u7_3 = zA u7_1 24 (upd (u7_1.2 24) x1.toNatClampNeg (u7_1.1 1)) → Q1 1 u7_3)) ∧ (¬ (u7_1.2 24 x1.toNatClampNeg) < (0 : Int32) → Q1 0 u7_1))) ∧ (¬ r_2 = (0 : Int32) → Q1 0 u7_1)) t0 1 u7

set_option maxHeartbeats 4000000 in
set_option maxRecDepth 100000 in
theorem bk_X7_undo_25 {a : Nat → Nat → Nat} {Q1 : Int32 → zSt → Prop} {x1 : Int32} {t0 : Int32} {u7 : zSt} (C : zCx p s m args c cX7_undo 2 RX7 wsX7_undo D cI cZ cJ A) (Y : zDy D A s.heap (k7 a cI cZ u7) H locs) (hl : lv_has ls 2 [(0, .ref (a 7 99)), (1, .int x1)]) (hret : ∀ {pc : Nat} {H : Heap} {locs : List Loc} {ls : Array Slot} {r : Int32} {u : zSt}, zDy D A s.heap ((fun u : zSt => k7 a cI cZ u) u) H locs → (r = 0 ∨ r = 1) → Q1 r u → decode cX7_undo pc = .ok (.ireturn, 1) → W p l e ({ frames := 1, cells := 0, slots := 0, locals := 22 } : Room) s m args below meth c H locs 0 0 Q (F0 m pc ls [.int r])) (hv : wp_X7_undo_25 Q1 x1 t0 u7) : W p l e ({ frames := 1, cells := 0, slots := 0, locals := 22 } : Room) s m args below meth c H locs 0 0 Q (F0 m 25 ls [.int t0, .ref (a 7 99)]) := by
  unfold wp_X7_undo_25 at hv
  obtain ⟨hx, hb, hml, hown, hts, hK, hA⟩ := id C
  refine lv_iconst (v := 1) hx hb dX7_undo_25 (by decide) ?_
  refine z_callVi C Y (c_X7_throwsIf l hv) (zFr.self _ _) (cwV 2 hts gX7_undo_X7_throwsIf rfl rfl rfl (by decide +kernel) ⟨(Nat.le_of_ble_eq_true rfl), (Nat.le_of_ble_eq_true rfl)⟩) (ge7_7 ..) rfl rfl rfl hl.1 rfl (Nat.le_of_ble_eq_true rfl) dX7_undo_26 ⟨Nat.zero_le _, Nat.zero_le _⟩ (fun r_2 u7_1 H locs Y hv => ?_)
  refine lv_if_ne (tgt := 41) hx hb dX7_undo_29 (by decide) (fun hc => ?_) (fun hc => ?_)
  · have hv := hv.2 hc
    refine lv_iconst (v := 0) hx hb dX7_undo_41 (by decide) ?_
    exact hret Y (Or.inl rfl) hv dX7_undo_42
  · have hv := hv.1 hc
    refine lv_aload_n hx hb dX7_undo_32 rfl (lv_at hl 0 rfl) ?_
    refine z_get C Y (Cn := RX7) (T := TX7) (N := 42) in_X7_undo_7 rfl (ge7_7 ..) 24 (by decide) fl_X7_undo_56 rfl dX7_undo_33 ?_
    refine lv_iload_n hx hb dX7_undo_36 rfl (lv_at hl 1 rfl) ?_
    obtain ⟨hi, hv⟩ := hv
    refine z_ldI C Y (pa7_7_24 ..) hi dX7_undo_37 ?_
    refine lv_if_lt (tgt := 43) hx hb dX7_undo_38 (by decide) (fun hc => ?_) (fun hc => ?_)
    · have hv := hv.1 hc
      refine lv_aload_n hx hb dX7_undo_43 rfl (lv_at hl 0 rfl) ?_
      refine z_get C Y (Cn := RX7) (T := TX7) (N := 42) in_X7_undo_7 rfl (ge7_7 ..) 24 (by decide) fl_X7_undo_56 rfl dX7_undo_44 ?_
      refine lv_iload_n hx hb dX7_undo_47 rfl (lv_at hl 1 rfl) ?_
      refine lv_aload_n hx hb dX7_undo_48 rfl (lv_at hl 0 rfl) ?_
      refine z_get C Y (Cn := RX7) (T := TX7) (N := 42) in_X7_undo_7 rfl (ge7_7 ..) 1 (by decide) fl_X7_undo_155 rfl dX7_undo_49 ?_
      obtain ⟨hi, hv⟩ := hv
      refine z_stI C Y (pa7_7_24 ..) (sa7_7_24 ..) hi dX7_undo_52 (fun H locs Y => ?_)
      obtain ⟨u7_3, eu7_3, Y, hv⟩ := z_nm (kf := fun z => (k7 a cI cZ z)) Y hv
      refine lv_iconst (v := 1) hx hb dX7_undo_53 (by decide) ?_
      exact hret Y (Or.inr rfl) hv dX7_undo_54
    · have hv := hv.2 hc
      refine lv_iconst (v := 0) hx hb dX7_undo_41 (by decide) ?_
      exact hret Y (Or.inl rfl) hv dX7_undo_42

def wp_X7_undo_0 (Q1 : Int32 → zSt → Prop) (p1 : Int32) (u7 : zSt) : Prop :=
  ∀ u7_1 : zSt, u7_1 = zI u7 0 0 → TX7_in (fun (r_2 : Int32) (_ : Unit) => (r_2 = (0 : Int32) → wp_X7_undo_25 Q1 p1 1 u7_1) ∧ (¬ r_2 = (0 : Int32) → wp_X7_undo_25 Q1 p1 0 u7_1)) p1 0 ((u7_1.1 25) - 1) 

set_option maxHeartbeats 4000000 in
set_option maxRecDepth 100000 in
theorem bk_X7_undo_0 {a : Nat → Nat → Nat} {Q1 : Int32 → zSt → Prop} {p1 : Int32} {u7 : zSt} (C : zCx p s m args c cX7_undo 2 RX7 wsX7_undo D cI cZ cJ A) (Y : zDy D A s.heap (k7 a cI cZ u7) H locs) (hl : lv_has ls 2 [(0, .ref (a 7 99)), (1, .int p1)]) (hret : ∀ {pc : Nat} {H : Heap} {locs : List Loc} {ls : Array Slot} {r : Int32} {u : zSt}, zDy D A s.heap ((fun u : zSt => k7 a cI cZ u) u) H locs → (r = 0 ∨ r = 1) → Q1 r u → decode cX7_undo pc = .ok (.ireturn, 1) → W p l e ({ frames := 1, cells := 0, slots := 0, locals := 22 } : Room) s m args below meth c H locs 0 0 Q (F0 m pc ls [.int r])) (hv : wp_X7_undo_0 Q1 p1 u7) : W p l e ({ frames := 1, cells := 0, slots := 0, locals := 22 } : Room) s m args below meth c H locs 0 0 Q (F0 m 0 ls []) := by
  unfold wp_X7_undo_0 at hv
  obtain ⟨hx, hb, hml, hown, hts, hK, hA⟩ := id C
  refine lv_aload_n hx hb dX7_undo_0 rfl (lv_at hl 0 rfl) ?_
  refine lv_iconst (v := 0) hx hb dX7_undo_1 (by decide) ?_
  refine z_putI C Y (Cn := RX7) (T := TX7) (N := 42) in_X7_undo_7 rfl tyX7 tyX7_ok nmX7 (ge7_7 ..) 0 (by decide) fl_X7_undo_93 rfl (by decide +kernel) (Nat.le_of_ble_eq_true rfl) (si7_7_0 ..) dX7_undo_2 (fun H locs Y => ?_)
  obtain ⟨u7_1, eu7_1, Y, hv⟩ := z_nm (kf := fun z => (k7 a cI cZ z)) Y hv
  refine lv_aload_n hx hb dX7_undo_5 rfl (lv_at hl 0 rfl) ?_
  refine lv_iload_n hx hb dX7_undo_6 rfl (lv_at hl 1 rfl) ?_
  refine lv_iconst (v := 0) hx hb dX7_undo_7 (by decide) ?_
  refine lv_aload_n hx hb dX7_undo_8 rfl (lv_at hl 0 rfl) ?_
  refine z_get C Y (Cn := RX7) (T := TX7) (N := 42) in_X7_undo_7 rfl (ge7_7 ..) 25 (by decide) fl_X7_undo_152 rfl dX7_undo_9 ?_
  refine lv_iconst (v := 1) hx hb dX7_undo_12 (by decide) ?_
  refine lv_isub hx hb dX7_undo_13 ?_
  refine z_callSi C Y (c_X7_in l hv) (zFr.nil _) (va_cwS 3 hts gX7_undo_X7_in rfl rfl rfl (by decide +kernel) ⟨(Nat.le_of_ble_eq_true rfl), (Nat.le_of_ble_eq_true rfl)⟩) rfl hl.1 rfl (Nat.le_of_ble_eq_true rfl) dX7_undo_14 ⟨Nat.zero_le _, Nat.zero_le _⟩ (fun r_2 _ H locs Y hv => ?_)
  refine lv_if_ne (tgt := 24) hx hb dX7_undo_17 (by decide) (fun hc => ?_) (fun hc => ?_)
  · have hv := hv.2 hc
    refine lv_iconst (v := 0) hx hb dX7_undo_24 (by decide) ?_
    exact bk_X7_undo_25 C Y (lv_sub hl [0, 1] rfl) hret hv
  · have hv := hv.1 hc
    refine lv_iconst (v := 1) hx hb dX7_undo_20 (by decide) ?_
    refine lv_goto (tgt := 25) hx hb dX7_undo_21 (by decide) ?_
    exact bk_X7_undo_25 C Y (lv_sub hl [0, 1] rfl) hret hv

end
abbrev TX7_undo := wp_X7_undo_0
set_option maxHeartbeats 4000000 in
set_option maxRecDepth 100000 in
theorem c_X7_undo (l : Launch) {D : va_G} {cI cZ cJ : ClassId} {a : Nat → Nat → Nat} {Q1 : Int32 → zSt → Prop} {p1 : Int32} {u7 : zSt} (hv : wp_X7_undo_0 Q1 p1 u7) : zMI l yX7_undo wsX7_undo ({ frames := 1, cells := 0, slots := 0, locals := 22 } : Room) D cI cZ cJ [.ref (a 7 99), .int p1] (k7 a cI cZ u7) (fun u : zSt => k7 a cI cZ u) Q1 :=
  z_ofZ (by decide) rfl rfl (Nat.le_of_ble_eq_true rfl) (fun C Y hl hret => bk_X7_undo_0 C Y hl hret hv)


theorem in_X7_days_7 : ∀ w ∈ wsX70, w ∈ wsX7_days := by first | exact fun w h => List.mem_cons_of_mem _ (List.mem_append_right _ h) | exact fun w h => List.mem_cons_of_mem _ (List.mem_append_left _ (List.mem_append_right _ h)) | decide +kernel
theorem fl_X7_days_93 : Cond.fieldLink RX7 93 (TX7 0).1 (TX7 0).2.1 (TX7 0).2.2.1 ∈ wsX7_days := by decide +kernel
theorem fl_X7_days_155 : Cond.fieldLink RX7 155 (TX7 1).1 (TX7 1).2.1 (TX7 1).2.2.1 ∈ wsX7_days := by decide +kernel
theorem mm_X7_days_min : z_mw RX7 158 Lib.Math.min.name Lib.Math.min.code wsX7_days := ⟨by decide +kernel, by decide +kernel, by decide +kernel, by decide +kernel⟩
section
variable {p : Program} {l : Launch} {e : Env} {s : State} {m : MethodId} {args : Array Value} {below : List Frame} {meth : Method} {c : Code} {H : Heap} {locs : List Loc} {Q : State → Prop} {D : va_G} {cI cZ cJ : ClassId} {A : Nat → Prop} {ls : Array Slot}
def wp_X7_days_21 (Q1 : Int32 → zSt → Prop) (x1 : Int32) (t0 : Int32) (u7 : zSt) : Prop :=
  TX7_throwsIf (fun (r_2 : Int32) (u7_1 : zSt) => (r_2 = (0 : Int32) → ∀ u7_3 : zSt, u7_3 = zI u7_1 1 (if ((u7_1.1 1) + x1) < (1000 : Int32) then ((u7_1.1 1) + x1) else 1000) → Q1 (u7_3.1 1) u7_3) ∧ (¬ r_2 = (0 : Int32) → Q1 0 u7_1)) t0 1 u7

set_option maxHeartbeats 4000000 in
set_option maxRecDepth 100000 in
theorem bk_X7_days_21 {a : Nat → Nat → Nat} {Q1 : Int32 → zSt → Prop} {x1 : Int32} {t0 : Int32} {u7 : zSt} (C : zCx p s m args c cX7_days 2 RX7 wsX7_days D cI cZ cJ A) (Y : zDy D A s.heap (k7 a cI cZ u7) H locs) (hl : lv_has ls 2 [(0, .ref (a 7 99)), (1, .int x1)]) (hret : ∀ {pc : Nat} {H : Heap} {locs : List Loc} {ls : Array Slot} {r : Int32} {u : zSt}, zDy D A s.heap ((fun u : zSt => k7 a cI cZ u) u) H locs → Q1 r u → decode cX7_days pc = .ok (.ireturn, 1) → W p l e ({ frames := 1, cells := 0, slots := 0, locals := 24 } : Room) s m args below meth c H locs 0 0 Q (F0 m pc ls [.int r])) (hv : wp_X7_days_21 Q1 x1 t0 u7) : W p l e ({ frames := 1, cells := 0, slots := 0, locals := 24 } : Room) s m args below meth c H locs 0 0 Q (F0 m 21 ls [.int t0, .ref (a 7 99)]) := by
  unfold wp_X7_days_21 at hv
  obtain ⟨hx, hb, hml, hown, hts, hK, hA⟩ := id C
  refine lv_iconst (v := 1) hx hb dX7_days_21 (by decide) ?_
  refine z_callVi C Y (c_X7_throwsIf l hv) (zFr.self _ _) (cwV 2 hts gX7_days_X7_throwsIf rfl rfl rfl (by decide +kernel) ⟨(Nat.le_of_ble_eq_true rfl), (Nat.le_of_ble_eq_true rfl)⟩) (ge7_7 ..) rfl rfl rfl hl.1 rfl (Nat.le_of_ble_eq_true rfl) dX7_days_22 ⟨Nat.zero_le _, Nat.zero_le _⟩ (fun r_2 u7_1 H locs Y hv => ?_)
  refine lv_if_eq (tgt := 30) hx hb dX7_days_25 (by decide) (fun hc => ?_) (fun hc => ?_)
  · have hv := hv.1 hc
    refine lv_aload_n hx hb dX7_days_30 rfl (lv_at hl 0 rfl) ?_
    refine lv_sipush (v := 1000) hx hb dX7_days_31 (by decide) ?_
    refine lv_aload_n hx hb dX7_days_34 rfl (lv_at hl 0 rfl) ?_
    refine z_get C Y (Cn := RX7) (T := TX7) (N := 42) in_X7_days_7 rfl (ge7_7 ..) 1 (by decide) fl_X7_days_155 rfl dX7_days_35 ?_
    refine lv_iload_n hx hb dX7_days_38 rfl (lv_at hl 1 rfl) ?_
    refine lv_iadd hx hb dX7_days_39 ?_
    refine z_mmin C hl.1 mm_X7_days_min (Nat.le_of_ble_eq_true rfl) (Nat.le_of_ble_eq_true rfl) (Nat.zero_le _) (Nat.zero_le _) dX7_days_40 ?_
    refine z_putI C Y (Cn := RX7) (T := TX7) (N := 42) in_X7_days_7 rfl tyX7 tyX7_ok nmX7 (ge7_7 ..) 1 (by decide) fl_X7_days_155 rfl (by decide +kernel) (Nat.le_of_ble_eq_true rfl) (si7_7_1 ..) dX7_days_43 (fun H locs Y => ?_)
    obtain ⟨u7_3, eu7_3, Y, hv⟩ := z_nm (kf := fun z => (k7 a cI cZ z)) Y hv
    refine lv_aload_n hx hb dX7_days_46 rfl (lv_at hl 0 rfl) ?_
    refine z_get C Y (Cn := RX7) (T := TX7) (N := 42) in_X7_days_7 rfl (ge7_7 ..) 1 (by decide) fl_X7_days_155 rfl dX7_days_47 ?_
    exact hret Y hv dX7_days_50
  · have hv := hv.2 hc
    refine lv_iconst (v := 0) hx hb dX7_days_28 (by decide) ?_
    exact hret Y hv dX7_days_29

def wp_X7_days_0 (Q1 : Int32 → zSt → Prop) (p1 : Int32) (u7 : zSt) : Prop :=
  ∀ u7_1 : zSt, u7_1 = zI u7 0 0 → TX7_in (fun (r_2 : Int32) (_ : Unit) => (r_2 = (0 : Int32) → wp_X7_days_21 Q1 p1 1 u7_1) ∧ (¬ r_2 = (0 : Int32) → wp_X7_days_21 Q1 p1 0 u7_1)) p1 0 100 

set_option maxHeartbeats 4000000 in
set_option maxRecDepth 100000 in
theorem bk_X7_days_0 {a : Nat → Nat → Nat} {Q1 : Int32 → zSt → Prop} {p1 : Int32} {u7 : zSt} (C : zCx p s m args c cX7_days 2 RX7 wsX7_days D cI cZ cJ A) (Y : zDy D A s.heap (k7 a cI cZ u7) H locs) (hl : lv_has ls 2 [(0, .ref (a 7 99)), (1, .int p1)]) (hret : ∀ {pc : Nat} {H : Heap} {locs : List Loc} {ls : Array Slot} {r : Int32} {u : zSt}, zDy D A s.heap ((fun u : zSt => k7 a cI cZ u) u) H locs → Q1 r u → decode cX7_days pc = .ok (.ireturn, 1) → W p l e ({ frames := 1, cells := 0, slots := 0, locals := 24 } : Room) s m args below meth c H locs 0 0 Q (F0 m pc ls [.int r])) (hv : wp_X7_days_0 Q1 p1 u7) : W p l e ({ frames := 1, cells := 0, slots := 0, locals := 24 } : Room) s m args below meth c H locs 0 0 Q (F0 m 0 ls []) := by
  unfold wp_X7_days_0 at hv
  obtain ⟨hx, hb, hml, hown, hts, hK, hA⟩ := id C
  refine lv_aload_n hx hb dX7_days_0 rfl (lv_at hl 0 rfl) ?_
  refine lv_iconst (v := 0) hx hb dX7_days_1 (by decide) ?_
  refine z_putI C Y (Cn := RX7) (T := TX7) (N := 42) in_X7_days_7 rfl tyX7 tyX7_ok nmX7 (ge7_7 ..) 0 (by decide) fl_X7_days_93 rfl (by decide +kernel) (Nat.le_of_ble_eq_true rfl) (si7_7_0 ..) dX7_days_2 (fun H locs Y => ?_)
  obtain ⟨u7_1, eu7_1, Y, hv⟩ := z_nm (kf := fun z => (k7 a cI cZ z)) Y hv
  refine lv_aload_n hx hb dX7_days_5 rfl (lv_at hl 0 rfl) ?_
  refine lv_iload_n hx hb dX7_days_6 rfl (lv_at hl 1 rfl) ?_
  refine lv_iconst (v := 0) hx hb dX7_days_7 (by decide) ?_
  refine lv_bipush (v := 100) hx hb dX7_days_8 (by decide) ?_
  refine z_callSi C Y (c_X7_in l hv) (zFr.nil _) (va_cwS 3 hts gX7_days_X7_in rfl rfl rfl (by decide +kernel) ⟨(Nat.le_of_ble_eq_true rfl), (Nat.le_of_ble_eq_true rfl)⟩) rfl hl.1 rfl (Nat.le_of_ble_eq_true rfl) dX7_days_10 ⟨Nat.zero_le _, Nat.zero_le _⟩ (fun r_2 _ H locs Y hv => ?_)
  refine lv_if_ne (tgt := 20) hx hb dX7_days_13 (by decide) (fun hc => ?_) (fun hc => ?_)
  · have hv := hv.2 hc
    refine lv_iconst (v := 0) hx hb dX7_days_20 (by decide) ?_
    exact bk_X7_days_21 C Y (lv_sub hl [0, 1] rfl) hret hv
  · have hv := hv.1 hc
    refine lv_iconst (v := 1) hx hb dX7_days_16 (by decide) ?_
    refine lv_goto (tgt := 21) hx hb dX7_days_17 (by decide) ?_
    exact bk_X7_days_21 C Y (lv_sub hl [0, 1] rfl) hret hv

end
abbrev TX7_days := wp_X7_days_0
set_option maxHeartbeats 4000000 in
set_option maxRecDepth 100000 in
theorem c_X7_days (l : Launch) {D : va_G} {cI cZ cJ : ClassId} {a : Nat → Nat → Nat} {Q1 : Int32 → zSt → Prop} {p1 : Int32} {u7 : zSt} (hv : wp_X7_days_0 Q1 p1 u7) : zMI l yX7_days wsX7_days ({ frames := 1, cells := 0, slots := 0, locals := 24 } : Room) D cI cZ cJ [.ref (a 7 99), .int p1] (k7 a cI cZ u7) (fun u : zSt => k7 a cI cZ u) Q1 :=
  z_ofI (by decide) rfl rfl (Nat.le_of_ble_eq_true rfl) (fun C Y hl hret => bk_X7_days_0 C Y hl hret hv)


theorem in_X7_did_7 : ∀ w ∈ wsX70, w ∈ wsX7_did := by first | exact fun w h => List.mem_cons_of_mem _ (List.mem_append_right _ h) | exact fun w h => List.mem_cons_of_mem _ (List.mem_append_left _ (List.mem_append_right _ h)) | decide +kernel
theorem fl_X7_did_46 : Cond.fieldLink RX7 46 (TX7 21).1 (TX7 21).2.1 (TX7 21).2.2.1 ∈ wsX7_did := by decide +kernel
theorem fl_X7_did_49 : Cond.fieldLink RX7 49 (TX7 22).1 (TX7 22).2.1 (TX7 22).2.2.1 ∈ wsX7_did := by decide +kernel
theorem fl_X7_did_53 : Cond.fieldLink RX7 53 (TX7 23).1 (TX7 23).2.1 (TX7 23).2.2.1 ∈ wsX7_did := by decide +kernel
theorem fl_X7_did_56 : Cond.fieldLink RX7 56 (TX7 24).1 (TX7 24).2.1 (TX7 24).2.2.1 ∈ wsX7_did := by decide +kernel
theorem fl_X7_did_152 : Cond.fieldLink RX7 152 (TX7 25).1 (TX7 25).2.1 (TX7 25).2.2.1 ∈ wsX7_did := by decide +kernel
section
variable {p : Program} {l : Launch} {e : Env} {s : State} {m : MethodId} {args : Array Value} {below : List Frame} {meth : Method} {c : Code} {H : Heap} {locs : List Loc} {Q : State → Prop} {D : va_G} {cI cZ cJ : ClassId} {A : Nat → Prop} {ls : Array Slot}
def wp_X7_did_0 (J3 : Int32 → Int32 → Int32 → Int32 → zSt → Prop) (Q1 : Int32 → zSt → Prop) (p1 : Int32) (p2 : Int32) (p3 : Int32) (u7 : zSt) : Prop :=
  ∀ x4_1 : Int32, x4_1 = 0 → J3 p1 p2 p3 x4_1 u7

set_option maxHeartbeats 4000000 in
set_option maxRecDepth 100000 in
theorem bk_X7_did_0 {a : Nat → Nat → Nat} {J3 : Int32 → Int32 → Int32 → Int32 → zSt → Prop} {Q1 : Int32 → zSt → Prop} {p1 : Int32} {p2 : Int32} {p3 : Int32} {u7 : zSt} (C : zCx p s m args c cX7_did 5 RX7 wsX7_did D cI cZ cJ A) (Y : zDy D A s.heap (k7 a cI cZ u7) H locs) (hl : lv_has ls 5 [(0, .ref (a 7 99)), (1, .int p1), (2, .int p2), (3, .int p3)]) (hret : ∀ {pc : Nat} {H : Heap} {locs : List Loc} {ls : Array Slot} {r : Int32} {u : zSt}, zDy D A s.heap ((fun u : zSt => k7 a cI cZ u) u) H locs → (r = 0 ∨ r = 1) → Q1 r u → decode cX7_did pc = .ok (.ireturn, 1) → W p l e ({ frames := 0, cells := 0, slots := 0, locals := 0 } : Room) s m args below meth c H locs 0 0 Q (F0 m pc ls [.int r])) (hJ3 : ∀ (x1 : Int32) (x2 : Int32) (x3 : Int32) (x4 : Int32) (u7 : zSt) (H : Heap) (locs : List Loc) (ls : Array Slot), J3 x1 x2 x3 x4 u7 → zDy D A s.heap (k7 a cI cZ u7) H locs → lv_has ls 5 [(0, .ref (a 7 99)), (1, .int x1), (2, .int x2), (3, .int x3), (4, .int x4)] → W p l e ({ frames := 0, cells := 0, slots := 0, locals := 0 } : Room) s m args below meth c H locs 0 0 Q (F0 m 3 ls [])) (hv : wp_X7_did_0 J3 Q1 p1 p2 p3 u7) : W p l e ({ frames := 0, cells := 0, slots := 0, locals := 0 } : Room) s m args below meth c H locs 0 0 Q (F0 m 0 ls []) := by
  unfold wp_X7_did_0 at hv
  obtain ⟨hx, hb, hml, hown, hts, hK, hA⟩ := id C
  refine lv_iconst (v := 0) hx hb dX7_did_0 (by decide) ?_
  refine z_topi hv (fun x4_1 ex4_1 hv => ?_)
  refine lv_istore (lv' := [(4, .int x4_1), (0, .ref (a 7 99)), (1, .int p1), (2, .int p2), (3, .int p3)]) hx hb dX7_did_1 hl (by decide) rfl (fun ls hl => ?_)
  exact hJ3 _ _ _ _ _ _ _ _ hv Y (lv_sub hl [1, 2, 3, 4, 0] rfl)

def wp_X7_did_3 (J3 : Int32 → Int32 → Int32 → Int32 → zSt → Prop) (Q1 : Int32 → zSt → Prop) (x1 : Int32) (x2 : Int32) (x3 : Int32) (x4 : Int32) (u7 : zSt) : Prop :=
  ((u7.1 25) ≤ x4 → Q1 0 u7) ∧ (¬ (u7.1 25) ≤ x4 → vp_in x4 100 ∧ (((u7.2 21 x4.toNatClampNeg) = x1 → vp_in x4 100 ∧ (((u7.2 22 x4.toNatClampNeg) = x2 → vp_in x4 100 ∧ ((x3 < (u7.2 23 x4.toNatClampNeg) → ∀ x4_3 : Int32, x4_3 = x4 + 1 → J3 x1 x2 x3 x4_3 u7) ∧ (¬ x3 < (u7.2 23 x4.toNatClampNeg) → vp_in x4 100 ∧ (((u7.2 24 x4.toNatClampNeg) < (0 : Int32) → Q1 1 u7) ∧ (¬ (u7.2 24 x4.toNatClampNeg) < (0 : Int32) → vp_in x4 100 ∧ (((u7.2 24 x4.toNatClampNeg) ≤ x3 → ∀ x4_4 : Int32, x4_4 = x4 + 1 → J3 x1 x2 x3 x4_4 u7) ∧ (¬ (u7.2 24 x4.toNatClampNeg) ≤ x3 → Q1 1 u7))))))) ∧ (¬ (u7.2 22 x4.toNatClampNeg) = x2 → ∀ x4_2 : Int32, x4_2 = x4 + 1 → J3 x1 x2 x3 x4_2 u7))) ∧ (¬ (u7.2 21 x4.toNatClampNeg) = x1 → ∀ x4_1 : Int32, x4_1 = x4 + 1 → J3 x1 x2 x3 x4_1 u7)))

set_option maxHeartbeats 4000000 in
set_option maxRecDepth 100000 in
theorem bk_X7_did_3 {a : Nat → Nat → Nat} {J3 : Int32 → Int32 → Int32 → Int32 → zSt → Prop} {Q1 : Int32 → zSt → Prop} {x1 : Int32} {x2 : Int32} {x3 : Int32} {x4 : Int32} {u7 : zSt} (C : zCx p s m args c cX7_did 5 RX7 wsX7_did D cI cZ cJ A) (Y : zDy D A s.heap (k7 a cI cZ u7) H locs) (hl : lv_has ls 5 [(0, .ref (a 7 99)), (1, .int x1), (2, .int x2), (3, .int x3), (4, .int x4)]) (hret : ∀ {pc : Nat} {H : Heap} {locs : List Loc} {ls : Array Slot} {r : Int32} {u : zSt}, zDy D A s.heap ((fun u : zSt => k7 a cI cZ u) u) H locs → (r = 0 ∨ r = 1) → Q1 r u → decode cX7_did pc = .ok (.ireturn, 1) → W p l e ({ frames := 0, cells := 0, slots := 0, locals := 0 } : Room) s m args below meth c H locs 0 0 Q (F0 m pc ls [.int r])) (hJ3 : ∀ (x1 : Int32) (x2 : Int32) (x3 : Int32) (x4 : Int32) (u7 : zSt) (H : Heap) (locs : List Loc) (ls : Array Slot), J3 x1 x2 x3 x4 u7 → zDy D A s.heap (k7 a cI cZ u7) H locs → lv_has ls 5 [(0, .ref (a 7 99)), (1, .int x1), (2, .int x2), (3, .int x3), (4, .int x4)] → W p l e ({ frames := 0, cells := 0, slots := 0, locals := 0 } : Room) s m args below meth c H locs 0 0 Q (F0 m 3 ls [])) (hv : wp_X7_did_3 J3 Q1 x1 x2 x3 x4 u7) : W p l e ({ frames := 0, cells := 0, slots := 0, locals := 0 } : Room) s m args below meth c H locs 0 0 Q (F0 m 3 ls []) := by
  unfold wp_X7_did_3 at hv
  obtain ⟨hx, hb, hml, hown, hts, hK, hA⟩ := id C
  refine lv_iload hx hb dX7_did_3 (lv_at hl 4 rfl) ?_
  refine lv_aload_n hx hb dX7_did_5 rfl (lv_at hl 0 rfl) ?_
  refine z_get C Y (Cn := RX7) (T := TX7) (N := 42) in_X7_did_7 rfl (ge7_7 ..) 25 (by decide) fl_X7_did_152 rfl dX7_did_6 ?_
  refine lv_icmp_ge (tgt := 74) hx hb dX7_did_9 (by decide) (fun hc => ?_) (fun hc => ?_)
  · have hv := hv.1 hc
    refine lv_iconst (v := 0) hx hb dX7_did_74 (by decide) ?_
    exact hret Y (Or.inl rfl) hv dX7_did_75
  · have hv := hv.2 hc
    refine lv_aload_n hx hb dX7_did_12 rfl (lv_at hl 0 rfl) ?_
    refine z_get C Y (Cn := RX7) (T := TX7) (N := 42) in_X7_did_7 rfl (ge7_7 ..) 21 (by decide) fl_X7_did_46 rfl dX7_did_13 ?_
    refine lv_iload hx hb dX7_did_16 (lv_at hl 4 rfl) ?_
    obtain ⟨hi, hv⟩ := hv
    refine z_ldI C Y (pa7_7_21 ..) hi dX7_did_18 ?_
    refine lv_iload_n hx hb dX7_did_19 rfl (lv_at hl 1 rfl) ?_
    refine lv_icmp_ne (tgt := 68) hx hb dX7_did_20 (by decide) (fun hc => ?_) (fun hc => ?_)
    · have hv := hv.2 hc
      obtain ⟨x4_1, ex4_1, hv⟩ := z_nv hv
      refine lv_iinc (v := x4_1) (lv' := [(4, .int x4_1), (0, .ref (a 7 99)), (1, .int x1), (2, .int x2), (3, .int x3)]) hx hb dX7_did_68 hl (k := 4) rfl (by rw [ex4_1]; rfl) (by decide) rfl (fun ls hl => ?_)
      refine lv_goto (tgt := 3) hx hb dX7_did_71 (by decide) ?_
      exact hJ3 _ _ _ _ _ _ _ _ hv Y (lv_sub hl [1, 2, 3, 4, 0] rfl)
    · have hv := hv.1 hc
      refine lv_aload_n hx hb dX7_did_23 rfl (lv_at hl 0 rfl) ?_
      refine z_get C Y (Cn := RX7) (T := TX7) (N := 42) in_X7_did_7 rfl (ge7_7 ..) 22 (by decide) fl_X7_did_49 rfl dX7_did_24 ?_
      refine lv_iload hx hb dX7_did_27 (lv_at hl 4 rfl) ?_
      obtain ⟨hi, hv⟩ := hv
      refine z_ldZ C Y (pa7_7_22 ..) hi dX7_did_29 ?_
      refine lv_iload_n hx hb dX7_did_30 rfl (lv_at hl 2 rfl) ?_
      refine lv_icmp_ne (tgt := 68) hx hb dX7_did_31 (by decide) (fun hc => ?_) (fun hc => ?_)
      · have hv := hv.2 hc
        obtain ⟨x4_2, ex4_2, hv⟩ := z_nv hv
        refine lv_iinc (v := x4_2) (lv' := [(4, .int x4_2), (0, .ref (a 7 99)), (1, .int x1), (2, .int x2), (3, .int x3)]) hx hb dX7_did_68 hl (k := 4) rfl (by rw [ex4_2]; rfl) (by decide) rfl (fun ls hl => ?_)
        refine lv_goto (tgt := 3) hx hb dX7_did_71 (by decide) ?_
        exact hJ3 _ _ _ _ _ _ _ _ hv Y (lv_sub hl [1, 2, 3, 4, 0] rfl)
      · have hv := hv.1 hc
        refine lv_aload_n hx hb dX7_did_34 rfl (lv_at hl 0 rfl) ?_
        refine z_get C Y (Cn := RX7) (T := TX7) (N := 42) in_X7_did_7 rfl (ge7_7 ..) 23 (by decide) fl_X7_did_53 rfl dX7_did_35 ?_
        refine lv_iload hx hb dX7_did_38 (lv_at hl 4 rfl) ?_
        obtain ⟨hi, hv⟩ := hv
        refine z_ldI C Y (pa7_7_23 ..) hi dX7_did_40 ?_
        refine lv_iload_n hx hb dX7_did_41 rfl (lv_at hl 3 rfl) ?_
        refine lv_icmp_gt (tgt := 68) hx hb dX7_did_42 (by decide) (fun hc => ?_) (fun hc => ?_)
        · have hv := hv.1 hc
          obtain ⟨x4_3, ex4_3, hv⟩ := z_nv hv
          refine lv_iinc (v := x4_3) (lv' := [(4, .int x4_3), (0, .ref (a 7 99)), (1, .int x1), (2, .int x2), (3, .int x3)]) hx hb dX7_did_68 hl (k := 4) rfl (by rw [ex4_3]; rfl) (by decide) rfl (fun ls hl => ?_)
          refine lv_goto (tgt := 3) hx hb dX7_did_71 (by decide) ?_
          exact hJ3 _ _ _ _ _ _ _ _ hv Y (lv_sub hl [1, 2, 3, 4, 0] rfl)
        · have hv := hv.2 hc
          refine lv_aload_n hx hb dX7_did_45 rfl (lv_at hl 0 rfl) ?_
          refine z_get C Y (Cn := RX7) (T := TX7) (N := 42) in_X7_did_7 rfl (ge7_7 ..) 24 (by decide) fl_X7_did_56 rfl dX7_did_46 ?_
          refine lv_iload hx hb dX7_did_49 (lv_at hl 4 rfl) ?_
          obtain ⟨hi, hv⟩ := hv
          refine z_ldI C Y (pa7_7_24 ..) hi dX7_did_51 ?_
          refine lv_if_lt (tgt := 66) hx hb dX7_did_52 (by decide) (fun hc => ?_) (fun hc => ?_)
          · have hv := hv.1 hc
            refine lv_iconst (v := 1) hx hb dX7_did_66 (by decide) ?_
            exact hret Y (Or.inr rfl) hv dX7_did_67
          · have hv := hv.2 hc
            refine lv_iload_n hx hb dX7_did_55 rfl (lv_at hl 3 rfl) ?_
            refine lv_aload_n hx hb dX7_did_56 rfl (lv_at hl 0 rfl) ?_
            refine z_get C Y (Cn := RX7) (T := TX7) (N := 42) in_X7_did_7 rfl (ge7_7 ..) 24 (by decide) fl_X7_did_56 rfl dX7_did_57 ?_
            refine lv_iload hx hb dX7_did_60 (lv_at hl 4 rfl) ?_
            obtain ⟨hi, hv⟩ := hv
            refine z_ldI C Y (pa7_7_24 ..) hi dX7_did_62 ?_
            refine lv_icmp_ge (tgt := 68) hx hb dX7_did_63 (by decide) (fun hc => ?_) (fun hc => ?_)
            · have hv := hv.1 hc
              obtain ⟨x4_4, ex4_4, hv⟩ := z_nv hv
              refine lv_iinc (v := x4_4) (lv' := [(4, .int x4_4), (0, .ref (a 7 99)), (1, .int x1), (2, .int x2), (3, .int x3)]) hx hb dX7_did_68 hl (k := 4) rfl (by rw [ex4_4]; rfl) (by decide) rfl (fun ls hl => ?_)
              refine lv_goto (tgt := 3) hx hb dX7_did_71 (by decide) ?_
              exact hJ3 _ _ _ _ _ _ _ _ hv Y (lv_sub hl [1, 2, 3, 4, 0] rfl)
            · have hv := hv.2 hc
              refine lv_iconst (v := 1) hx hb dX7_did_66 (by decide) ?_
              exact hret Y (Or.inr rfl) hv dX7_did_67

end
set_option maxHeartbeats 4000000 in
set_option maxRecDepth 100000 in
theorem k_X7_did (l : Launch) {D : va_G} {cI cZ cJ : ClassId} {a : Nat → Nat → Nat} {Q1 : Int32 → zSt → Prop} {p1 : Int32} {p2 : Int32} {p3 : Int32} {u7 : zSt} (I3 : Nat → Int32 → Int32 → Int32 → Int32 → zSt → Prop)
    (hv : wp_X7_did_0 (fun x1 x2 x3 x4 u7 => ∃ n : Nat, I3 n x1 x2 x3 x4 u7) Q1 p1 p2 p3 u7)
    (hI3 : ∀ (n : Nat) (x1 : Int32) (x2 : Int32) (x3 : Int32) (x4 : Int32) (u7 : zSt), I3 n x1 x2 x3 x4 u7 → wp_X7_did_3 (fun x1 x2 x3 x4 u7 => ∃ k : Nat, k < n ∧ I3 k x1 x2 x3 x4 u7) Q1 x1 x2 x3 x4 u7) : zMI l yX7_did wsX7_did ({ frames := 0, cells := 0, slots := 0, locals := 0 } : Room) D cI cZ cJ [.ref (a 7 99), .int p1, .int p2, .int p3] (k7 a cI cZ u7) (fun u : zSt => k7 a cI cZ u) Q1 := by
  refine z_ofZ (by decide) rfl rfl (Nat.le_of_ble_eq_true rfl) (@fun p e s m args below meth c A Q ls C Y hl hret => ?_)
  have key : ∀ n : Nat, (∀ (x1 : Int32) (x2 : Int32) (x3 : Int32) (x4 : Int32) (u7 : zSt) (H : Heap) (locs : List Loc) (ls : Array Slot), I3 n x1 x2 x3 x4 u7 → zDy D A s.heap (k7 a cI cZ u7) H locs → lv_has ls 5 [(0, .ref (a 7 99)), (1, .int x1), (2, .int x2), (3, .int x3), (4, .int x4)] → W p l e ({ frames := 0, cells := 0, slots := 0, locals := 0 } : Room) s m args below meth c H locs 0 0 Q (F0 m 3 ls [])) := by
    intro n
    induction n using Nat.strongRecOn with
    | _ n ih =>
      exact fun x1 x2 x3 x4 u7 H locs ls hi Y hl => bk_X7_did_3 C Y hl hret (fun y0 y1 y2 y3 y4 H locs ls hi Y hl => by obtain ⟨k, hk, hi⟩ := hi; exact (ih k hk) y0 y1 y2 y3 y4 H locs ls hi Y hl) (hI3 n x1 x2 x3 x4 u7 hi)
  exact bk_X7_did_0 C Y hl hret (fun y0 y1 y2 y3 y4 H locs ls hi Y hl => by obtain ⟨n, hi⟩ := hi; exact (key n) y0 y1 y2 y3 y4 H locs ls hi Y hl) hv
def TX7_did (Q1 : Int32 → zSt → Prop) (p1 : Int32) (p2 : Int32) (p3 : Int32) (u7 : zSt) : Prop :=
  ∃ I3 : Nat → Int32 → Int32 → Int32 → Int32 → zSt → Prop, (wp_X7_did_0 (fun x1 x2 x3 x4 u7 => ∃ n : Nat, I3 n x1 x2 x3 x4 u7) Q1 p1 p2 p3 u7) ∧ (∀ (n : Nat) (x1 : Int32) (x2 : Int32) (x3 : Int32) (x4 : Int32) (u7 : zSt), I3 n x1 x2 x3 x4 u7 → wp_X7_did_3 (fun x1 x2 x3 x4 u7 => ∃ k : Nat, k < n ∧ I3 k x1 x2 x3 x4 u7) Q1 x1 x2 x3 x4 u7)
set_option maxHeartbeats 4000000 in
set_option maxRecDepth 100000 in
theorem c_X7_did (l : Launch) {D : va_G} {cI cZ cJ : ClassId} {a : Nat → Nat → Nat} {Q1 : Int32 → zSt → Prop} {p1 : Int32} {p2 : Int32} {p3 : Int32} {u7 : zSt} (hv : TX7_did Q1 p1 p2 p3 u7) : zMI l yX7_did wsX7_did ({ frames := 0, cells := 0, slots := 0, locals := 0 } : Room) D cI cZ cJ [.ref (a 7 99), .int p1, .int p2, .int p3] (k7 a cI cZ u7) (fun u : zSt => k7 a cI cZ u) Q1 := by
  obtain ⟨I3, hv, hI3⟩ := hv
  exact k_X7_did l I3 hv hI3


theorem in_X7_explains_7 : ∀ w ∈ wsX70, w ∈ wsX7_explains := by first | exact fun w h => List.mem_cons_of_mem _ (List.mem_append_right _ h) | exact fun w h => List.mem_cons_of_mem _ (List.mem_append_left _ (List.mem_append_right _ h)) | decide +kernel
theorem fl_X7_explains_43 : Cond.fieldLink RX7 43 (TX7 18).1 (TX7 18).2.1 (TX7 18).2.2.1 ∈ wsX7_explains := by decide +kernel
theorem fl_X7_explains_59 : Cond.fieldLink RX7 59 (TX7 29).1 (TX7 29).2.1 (TX7 29).2.2.1 ∈ wsX7_explains := by decide +kernel
theorem fl_X7_explains_132 : Cond.fieldLink RX7 132 (TX7 17).1 (TX7 17).2.1 (TX7 17).2.2.1 ∈ wsX7_explains := by decide +kernel
theorem fl_X7_explains_142 : Cond.fieldLink RX7 142 (TX7 19).1 (TX7 19).2.1 (TX7 19).2.2.1 ∈ wsX7_explains := by decide +kernel
theorem fl_X7_explains_167 : Cond.fieldLink RX7 167 (TX7 26).1 (TX7 26).2.1 (TX7 26).2.2.1 ∈ wsX7_explains := by decide +kernel
theorem fl_X7_explains_170 : Cond.fieldLink RX7 170 (TX7 27).1 (TX7 27).2.1 (TX7 27).2.2.1 ∈ wsX7_explains := by decide +kernel
theorem fl_X7_explains_173 : Cond.fieldLink RX7 173 (TX7 28).1 (TX7 28).2.1 (TX7 28).2.2.1 ∈ wsX7_explains := by decide +kernel
section
variable {p : Program} {l : Launch} {e : Env} {s : State} {m : MethodId} {args : Array Value} {below : List Frame} {meth : Method} {c : Code} {H : Heap} {locs : List Loc} {Q : State → Prop} {D : va_G} {cI cZ cJ : ClassId} {A : Nat → Prop} {ls : Array Slot}
def wp_X7_explains_0 (J11 : Int32 → Int32 → Int32 → zSt → Prop) (J76 : Int32 → Int32 → zSt → Prop) (J103 : Int32 → Int32 → Int32 → Int32 → zSt → Prop) (Q1 : zSt → Prop) (p1 : Int32) (u7 : zSt) : Prop :=
  ∀ x2_1 : Int32, x2_1 = (((1 : Int32) <<< (((u7.1 17) : Int32) &&& 31)) - 1) → ∀ x3_2 : Int32, x3_2 = 0 → J11 p1 x2_1 x3_2 u7

set_option maxHeartbeats 4000000 in
set_option maxRecDepth 100000 in
theorem bk_X7_explains_0 {a : Nat → Nat → Nat} {J11 : Int32 → Int32 → Int32 → zSt → Prop} {J76 : Int32 → Int32 → zSt → Prop} {J103 : Int32 → Int32 → Int32 → Int32 → zSt → Prop} {Q1 : zSt → Prop} {p1 : Int32} {u7 : zSt} (C : zCx p s m args c cX7_explains 6 RX7 wsX7_explains D cI cZ cJ A) (Y : zDy D A s.heap (k7 a cI cZ u7) H locs) (hl : lv_has ls 6 [(0, .ref (a 7 99)), (1, .int p1)]) (hret : ∀ {pc : Nat} {H : Heap} {locs : List Loc} {ls : Array Slot} {u : zSt}, zDy D A s.heap ((fun u : zSt => k7 a cI cZ u) u) H locs → Q1 u → decode cX7_explains pc = .ok (.return_, 1) → W p l e ({ frames := 1, cells := 0, slots := 0, locals := 24 } : Room) s m args below meth c H locs 0 0 Q (F0 m pc ls [])) (hJ11 : ∀ (x1 : Int32) (x2 : Int32) (x3 : Int32) (u7 : zSt) (H : Heap) (locs : List Loc) (ls : Array Slot), J11 x1 x2 x3 u7 → zDy D A s.heap (k7 a cI cZ u7) H locs → lv_has ls 6 [(0, .ref (a 7 99)), (1, .int x1), (2, .int x2), (3, .int x3)] → W p l e ({ frames := 1, cells := 0, slots := 0, locals := 24 } : Room) s m args below meth c H locs 0 0 Q (F0 m 11 ls [])) (hJ76 : ∀ (x2 : Int32) (x3 : Int32) (u7 : zSt) (H : Heap) (locs : List Loc) (ls : Array Slot), J76 x2 x3 u7 → zDy D A s.heap (k7 a cI cZ u7) H locs → lv_has ls 6 [(0, .ref (a 7 99)), (2, .int x2), (3, .int x3)] → W p l e ({ frames := 1, cells := 0, slots := 0, locals := 24 } : Room) s m args below meth c H locs 0 0 Q (F0 m 76 ls [])) (hJ103 : ∀ (x2 : Int32) (x3 : Int32) (x4 : Int32) (x5 : Int32) (u7 : zSt) (H : Heap) (locs : List Loc) (ls : Array Slot), J103 x2 x3 x4 x5 u7 → zDy D A s.heap (k7 a cI cZ u7) H locs → lv_has ls 6 [(0, .ref (a 7 99)), (2, .int x2), (3, .int x3), (4, .int x4), (5, .int x5)] → W p l e ({ frames := 1, cells := 0, slots := 0, locals := 24 } : Room) s m args below meth c H locs 0 0 Q (F0 m 103 ls [])) (hv : wp_X7_explains_0 J11 J76 J103 Q1 p1 u7) : W p l e ({ frames := 1, cells := 0, slots := 0, locals := 24 } : Room) s m args below meth c H locs 0 0 Q (F0 m 0 ls []) := by
  unfold wp_X7_explains_0 at hv
  obtain ⟨hx, hb, hml, hown, hts, hK, hA⟩ := id C
  refine lv_iconst (v := 1) hx hb dX7_explains_0 (by decide) ?_
  refine lv_aload_n hx hb dX7_explains_1 rfl (lv_at hl 0 rfl) ?_
  refine z_get C Y (Cn := RX7) (T := TX7) (N := 42) in_X7_explains_7 rfl (ge7_7 ..) 17 (by decide) fl_X7_explains_132 rfl dX7_explains_2 ?_
  refine lv_ishl hx hb dX7_explains_5 ?_
  refine lv_iconst (v := 1) hx hb dX7_explains_6 (by decide) ?_
  refine lv_isub hx hb dX7_explains_7 ?_
  refine z_topi hv (fun x2_1 ex2_1 hv => ?_)
  refine lv_istore_n (lv' := [(2, .int x2_1), (0, .ref (a 7 99)), (1, .int p1)]) hx hb dX7_explains_8 rfl hl (by decide) rfl (fun ls hl => ?_)
  refine lv_iconst (v := 0) hx hb dX7_explains_9 (by decide) ?_
  refine z_topi hv (fun x3_2 ex3_2 hv => ?_)
  refine lv_istore_n (lv' := [(3, .int x3_2), (2, .int x2_1), (0, .ref (a 7 99)), (1, .int p1)]) hx hb dX7_explains_10 rfl hl (by decide) rfl (fun ls hl => ?_)
  exact hJ11 _ _ _ _ _ _ _ hv Y (lv_sub hl [2, 3, 1, 0] rfl)

def wp_X7_explains_11 (J11 : Int32 → Int32 → Int32 → zSt → Prop) (J76 : Int32 → Int32 → zSt → Prop) (J103 : Int32 → Int32 → Int32 → Int32 → zSt → Prop) (Q1 : zSt → Prop) (x1 : Int32) (x2 : Int32) (x3 : Int32) (u7 : zSt) : Prop :=
  ((u7.1 19) ≤ x3 → ∀ u7_1 : zSt, u7_1 = zI u7 26 (-1) → ∀ u7_2 : zSt, u7_2 = zI u7_1 27 0 → ∀ u7_3 : zSt, u7_3 = zI u7_2 28 0 → ∀ x3_4 : Int32, x3_4 = 0 → J76 x2 x3_4 u7_3) ∧ (¬ (u7.1 19) ≤ x3 → TX7_did (fun (r_6 : Int32) (u7_5 : zSt) => vp_in x3 60 ∧ (∀ u7_7 : zSt, u7_7 = zA u7_5 29 (upd (u7_5.2 29) x3.toNatClampNeg (vp_nar .boolean r_6)) → TX7_did (fun (r_9 : Int32) (u7_8 : zSt) => (r_9 = (0 : Int32) → ∀ x3_10 : Int32, x3_10 = x3 + 1 → J11 x1 x2 x3_10 u7_8) ∧ (¬ r_9 = (0 : Int32) → vp_in x3 60 ∧ (∀ x2_11 : Int32, x2_11 = (x2 &&& ((u7_8.2 18 x3.toNatClampNeg) ^^^ (-1))) → ∀ x3_12 : Int32, x3_12 = x3 + 1 → J11 x1 x2_11 x3_12 u7_8))) x3 0 x1 u7_7)) x3 1 x1 u7)

set_option maxHeartbeats 4000000 in
set_option maxRecDepth 100000 in
theorem bk_X7_explains_11 {a : Nat → Nat → Nat} {J11 : Int32 → Int32 → Int32 → zSt → Prop} {J76 : Int32 → Int32 → zSt → Prop} {J103 : Int32 → Int32 → Int32 → Int32 → zSt → Prop} {Q1 : zSt → Prop} {x1 : Int32} {x2 : Int32} {x3 : Int32} {u7 : zSt} (C : zCx p s m args c cX7_explains 6 RX7 wsX7_explains D cI cZ cJ A) (Y : zDy D A s.heap (k7 a cI cZ u7) H locs) (hl : lv_has ls 6 [(0, .ref (a 7 99)), (1, .int x1), (2, .int x2), (3, .int x3)]) (hret : ∀ {pc : Nat} {H : Heap} {locs : List Loc} {ls : Array Slot} {u : zSt}, zDy D A s.heap ((fun u : zSt => k7 a cI cZ u) u) H locs → Q1 u → decode cX7_explains pc = .ok (.return_, 1) → W p l e ({ frames := 1, cells := 0, slots := 0, locals := 24 } : Room) s m args below meth c H locs 0 0 Q (F0 m pc ls [])) (hJ11 : ∀ (x1 : Int32) (x2 : Int32) (x3 : Int32) (u7 : zSt) (H : Heap) (locs : List Loc) (ls : Array Slot), J11 x1 x2 x3 u7 → zDy D A s.heap (k7 a cI cZ u7) H locs → lv_has ls 6 [(0, .ref (a 7 99)), (1, .int x1), (2, .int x2), (3, .int x3)] → W p l e ({ frames := 1, cells := 0, slots := 0, locals := 24 } : Room) s m args below meth c H locs 0 0 Q (F0 m 11 ls [])) (hJ76 : ∀ (x2 : Int32) (x3 : Int32) (u7 : zSt) (H : Heap) (locs : List Loc) (ls : Array Slot), J76 x2 x3 u7 → zDy D A s.heap (k7 a cI cZ u7) H locs → lv_has ls 6 [(0, .ref (a 7 99)), (2, .int x2), (3, .int x3)] → W p l e ({ frames := 1, cells := 0, slots := 0, locals := 24 } : Room) s m args below meth c H locs 0 0 Q (F0 m 76 ls [])) (hJ103 : ∀ (x2 : Int32) (x3 : Int32) (x4 : Int32) (x5 : Int32) (u7 : zSt) (H : Heap) (locs : List Loc) (ls : Array Slot), J103 x2 x3 x4 x5 u7 → zDy D A s.heap (k7 a cI cZ u7) H locs → lv_has ls 6 [(0, .ref (a 7 99)), (2, .int x2), (3, .int x3), (4, .int x4), (5, .int x5)] → W p l e ({ frames := 1, cells := 0, slots := 0, locals := 24 } : Room) s m args below meth c H locs 0 0 Q (F0 m 103 ls [])) (hv : wp_X7_explains_11 J11 J76 J103 Q1 x1 x2 x3 u7) : W p l e ({ frames := 1, cells := 0, slots := 0, locals := 24 } : Room) s m args below meth c H locs 0 0 Q (F0 m 11 ls []) := by
  unfold wp_X7_explains_11 at hv
  obtain ⟨hx, hb, hml, hown, hts, hK, hA⟩ := id C
  refine lv_iload_n hx hb dX7_explains_11 rfl (lv_at hl 3 rfl) ?_
  refine lv_aload_n hx hb dX7_explains_12 rfl (lv_at hl 0 rfl) ?_
  refine z_get C Y (Cn := RX7) (T := TX7) (N := 42) in_X7_explains_7 rfl (ge7_7 ..) 19 (by decide) fl_X7_explains_142 rfl dX7_explains_13 ?_
  refine lv_icmp_ge (tgt := 59) hx hb dX7_explains_16 (by decide) (fun hc => ?_) (fun hc => ?_)
  · have hv := hv.1 hc
    refine lv_aload_n hx hb dX7_explains_59 rfl (lv_at hl 0 rfl) ?_
    refine lv_iconst (v := (-1)) hx hb dX7_explains_60 (by decide) ?_
    refine z_putI C Y (Cn := RX7) (T := TX7) (N := 42) in_X7_explains_7 rfl tyX7 tyX7_ok nmX7 (ge7_7 ..) 26 (by decide) fl_X7_explains_167 rfl (by decide +kernel) (Nat.le_of_ble_eq_true rfl) (si7_7_26 ..) dX7_explains_61 (fun H locs Y => ?_)
    obtain ⟨u7_1, eu7_1, Y, hv⟩ := z_nm (kf := fun z => (k7 a cI cZ z)) Y hv
    refine lv_aload_n hx hb dX7_explains_64 rfl (lv_at hl 0 rfl) ?_
    refine lv_iconst (v := 0) hx hb dX7_explains_65 (by decide) ?_
    refine z_putI C Y (Cn := RX7) (T := TX7) (N := 42) in_X7_explains_7 rfl tyX7 tyX7_ok nmX7 (ge7_7 ..) 27 (by decide) fl_X7_explains_170 rfl (by decide +kernel) (Nat.le_of_ble_eq_true rfl) (si7_7_27 ..) dX7_explains_66 (fun H locs Y => ?_)
    obtain ⟨u7_2, eu7_2, Y, hv⟩ := z_nm (kf := fun z => (k7 a cI cZ z)) Y hv
    refine lv_aload_n hx hb dX7_explains_69 rfl (lv_at hl 0 rfl) ?_
    refine lv_iconst (v := 0) hx hb dX7_explains_70 (by decide) ?_
    refine z_putI C Y (Cn := RX7) (T := TX7) (N := 42) in_X7_explains_7 rfl tyX7 tyX7_ok nmX7 (ge7_7 ..) 28 (by decide) fl_X7_explains_173 rfl (by decide +kernel) (Nat.le_of_ble_eq_true rfl) (si7_7_28 ..) dX7_explains_71 (fun H locs Y => ?_)
    obtain ⟨u7_3, eu7_3, Y, hv⟩ := z_nm (kf := fun z => (k7 a cI cZ z)) Y hv
    refine lv_iconst (v := 0) hx hb dX7_explains_74 (by decide) ?_
    refine z_topi hv (fun x3_4 ex3_4 hv => ?_)
    refine lv_istore_n (lv' := [(3, .int x3_4), (0, .ref (a 7 99)), (1, .int x1), (2, .int x2)]) hx hb dX7_explains_75 rfl hl (by decide) rfl (fun ls hl => ?_)
    exact hJ76 _ _ _ _ _ _ hv Y (lv_sub hl [1, 3, 0] rfl)
  · have hv := hv.2 hc
    refine lv_aload_n hx hb dX7_explains_19 rfl (lv_at hl 0 rfl) ?_
    refine z_get C Y (Cn := RX7) (T := TX7) (N := 42) in_X7_explains_7 rfl (ge7_7 ..) 29 (by decide) fl_X7_explains_59 rfl dX7_explains_20 ?_
    refine lv_iload_n hx hb dX7_explains_23 rfl (lv_at hl 3 rfl) ?_
    refine lv_aload_n hx hb dX7_explains_24 rfl (lv_at hl 0 rfl) ?_
    refine lv_iload_n hx hb dX7_explains_25 rfl (lv_at hl 3 rfl) ?_
    refine lv_iconst (v := 1) hx hb dX7_explains_26 (by decide) ?_
    refine lv_iload_n hx hb dX7_explains_27 rfl (lv_at hl 1 rfl) ?_
    refine z_callVi C Y (c_X7_did l hv) (zFr.self _ _) (cwV 3 hts gX7_explains_X7_did rfl rfl rfl (by decide +kernel) ⟨(Nat.le_of_ble_eq_true rfl), (Nat.le_of_ble_eq_true rfl)⟩) (ge7_7 ..) rfl rfl rfl hl.1 rfl (Nat.le_of_ble_eq_true rfl) dX7_explains_28 ⟨Nat.zero_le _, Nat.zero_le _⟩ (fun r_6 u7_5 H locs Y hv => ?_)
    obtain ⟨hi, hv⟩ := hv
    refine z_stZ C Y (pa7_7_29 ..) (sa7_7_29 ..) hi dX7_explains_31 (fun H locs Y => ?_)
    obtain ⟨u7_7, eu7_7, Y, hv⟩ := z_nm (kf := fun z => (k7 a cI cZ z)) Y hv
    refine lv_aload_n hx hb dX7_explains_32 rfl (lv_at hl 0 rfl) ?_
    refine lv_iload_n hx hb dX7_explains_33 rfl (lv_at hl 3 rfl) ?_
    refine lv_iconst (v := 0) hx hb dX7_explains_34 (by decide) ?_
    refine lv_iload_n hx hb dX7_explains_35 rfl (lv_at hl 1 rfl) ?_
    refine z_callVi C Y (c_X7_did l hv) (zFr.self _ _) (cwV 3 hts gX7_explains_X7_did rfl rfl rfl (by decide +kernel) ⟨(Nat.le_of_ble_eq_true rfl), (Nat.le_of_ble_eq_true rfl)⟩) (ge7_7 ..) rfl rfl rfl hl.1 rfl (Nat.le_of_ble_eq_true rfl) dX7_explains_36 ⟨Nat.zero_le _, Nat.zero_le _⟩ (fun r_9 u7_8 H locs Y hv => ?_)
    refine lv_if_eq (tgt := 53) hx hb dX7_explains_39 (by decide) (fun hc => ?_) (fun hc => ?_)
    · have hv := hv.1 hc
      obtain ⟨x3_10, ex3_10, hv⟩ := z_nv hv
      refine lv_iinc (v := x3_10) (lv' := [(3, .int x3_10), (0, .ref (a 7 99)), (1, .int x1), (2, .int x2)]) hx hb dX7_explains_53 hl (k := 3) rfl (by rw [ex3_10]; rfl) (by decide) rfl (fun ls hl => ?_)
      refine lv_goto (tgt := 11) hx hb dX7_explains_56 (by decide) ?_
      exact hJ11 _ _ _ _ _ _ _ hv Y (lv_sub hl [1, 2, 3, 0] rfl)
    · have hv := hv.2 hc
      refine lv_iload_n hx hb dX7_explains_42 rfl (lv_at hl 2 rfl) ?_
      refine lv_aload_n hx hb dX7_explains_43 rfl (lv_at hl 0 rfl) ?_
      refine z_get C Y (Cn := RX7) (T := TX7) (N := 42) in_X7_explains_7 rfl (ge7_7 ..) 18 (by decide) fl_X7_explains_43 rfl dX7_explains_44 ?_
      refine lv_iload_n hx hb dX7_explains_47 rfl (lv_at hl 3 rfl) ?_
      obtain ⟨hi, hv⟩ := hv
      refine z_ldI C Y (pa7_7_18 ..) hi dX7_explains_48 ?_
      refine lv_iconst (v := (-1)) hx hb dX7_explains_49 (by decide) ?_
      refine lv_ixor hx hb dX7_explains_50 ?_
      refine lv_iand hx hb dX7_explains_51 ?_
      refine z_topi hv (fun x2_11 ex2_11 hv => ?_)
      refine lv_istore_n (lv' := [(2, .int x2_11), (0, .ref (a 7 99)), (1, .int x1), (3, .int x3)]) hx hb dX7_explains_52 rfl hl (by decide) rfl (fun ls hl => ?_)
      obtain ⟨x3_12, ex3_12, hv⟩ := z_nv hv
      refine lv_iinc (v := x3_12) (lv' := [(3, .int x3_12), (2, .int x2_11), (0, .ref (a 7 99)), (1, .int x1)]) hx hb dX7_explains_53 hl (k := 3) rfl (by rw [ex3_12]; rfl) (by decide) rfl (fun ls hl => ?_)
      refine lv_goto (tgt := 11) hx hb dX7_explains_56 (by decide) ?_
      exact hJ11 _ _ _ _ _ _ _ hv Y (lv_sub hl [2, 3, 1, 0] rfl)

def wp_X7_explains_76 (J11 : Int32 → Int32 → Int32 → zSt → Prop) (J76 : Int32 → Int32 → zSt → Prop) (J103 : Int32 → Int32 → Int32 → Int32 → zSt → Prop) (Q1 : zSt → Prop) (x2 : Int32) (x3 : Int32) (u7 : zSt) : Prop :=
  (((1 : Int32) <<< (((u7.1 17) : Int32) &&& 31)) ≤ x3 → Q1 u7) ∧ (¬ ((1 : Int32) <<< (((u7.1 17) : Int32) &&& 31)) ≤ x3 → ((x3 &&& (x2 ^^^ (-1))) = (0 : Int32) → ∀ x4_1 : Int32, x4_1 = 1 → ∀ x5_2 : Int32, x5_2 = 0 → J103 x2 x3 x4_1 x5_2 u7) ∧ (¬ (x3 &&& (x2 ^^^ (-1))) = (0 : Int32) → ∀ x3_3 : Int32, x3_3 = x3 + 1 → J76 x2 x3_3 u7))

set_option maxHeartbeats 4000000 in
set_option maxRecDepth 100000 in
theorem bk_X7_explains_76 {a : Nat → Nat → Nat} {J11 : Int32 → Int32 → Int32 → zSt → Prop} {J76 : Int32 → Int32 → zSt → Prop} {J103 : Int32 → Int32 → Int32 → Int32 → zSt → Prop} {Q1 : zSt → Prop} {x2 : Int32} {x3 : Int32} {u7 : zSt} (C : zCx p s m args c cX7_explains 6 RX7 wsX7_explains D cI cZ cJ A) (Y : zDy D A s.heap (k7 a cI cZ u7) H locs) (hl : lv_has ls 6 [(0, .ref (a 7 99)), (2, .int x2), (3, .int x3)]) (hret : ∀ {pc : Nat} {H : Heap} {locs : List Loc} {ls : Array Slot} {u : zSt}, zDy D A s.heap ((fun u : zSt => k7 a cI cZ u) u) H locs → Q1 u → decode cX7_explains pc = .ok (.return_, 1) → W p l e ({ frames := 1, cells := 0, slots := 0, locals := 24 } : Room) s m args below meth c H locs 0 0 Q (F0 m pc ls [])) (hJ11 : ∀ (x1 : Int32) (x2 : Int32) (x3 : Int32) (u7 : zSt) (H : Heap) (locs : List Loc) (ls : Array Slot), J11 x1 x2 x3 u7 → zDy D A s.heap (k7 a cI cZ u7) H locs → lv_has ls 6 [(0, .ref (a 7 99)), (1, .int x1), (2, .int x2), (3, .int x3)] → W p l e ({ frames := 1, cells := 0, slots := 0, locals := 24 } : Room) s m args below meth c H locs 0 0 Q (F0 m 11 ls [])) (hJ76 : ∀ (x2 : Int32) (x3 : Int32) (u7 : zSt) (H : Heap) (locs : List Loc) (ls : Array Slot), J76 x2 x3 u7 → zDy D A s.heap (k7 a cI cZ u7) H locs → lv_has ls 6 [(0, .ref (a 7 99)), (2, .int x2), (3, .int x3)] → W p l e ({ frames := 1, cells := 0, slots := 0, locals := 24 } : Room) s m args below meth c H locs 0 0 Q (F0 m 76 ls [])) (hJ103 : ∀ (x2 : Int32) (x3 : Int32) (x4 : Int32) (x5 : Int32) (u7 : zSt) (H : Heap) (locs : List Loc) (ls : Array Slot), J103 x2 x3 x4 x5 u7 → zDy D A s.heap (k7 a cI cZ u7) H locs → lv_has ls 6 [(0, .ref (a 7 99)), (2, .int x2), (3, .int x3), (4, .int x4), (5, .int x5)] → W p l e ({ frames := 1, cells := 0, slots := 0, locals := 24 } : Room) s m args below meth c H locs 0 0 Q (F0 m 103 ls [])) (hv : wp_X7_explains_76 J11 J76 J103 Q1 x2 x3 u7) : W p l e ({ frames := 1, cells := 0, slots := 0, locals := 24 } : Room) s m args below meth c H locs 0 0 Q (F0 m 76 ls []) := by
  unfold wp_X7_explains_76 at hv
  obtain ⟨hx, hb, hml, hown, hts, hK, hA⟩ := id C
  refine lv_iload_n hx hb dX7_explains_76 rfl (lv_at hl 2 rfl) ?_
  refine lv_iconst (v := 1) hx hb dX7_explains_77 (by decide) ?_
  refine lv_aload_n hx hb dX7_explains_78 rfl (lv_at hl 0 rfl) ?_
  refine z_get C Y (Cn := RX7) (T := TX7) (N := 42) in_X7_explains_7 rfl (ge7_7 ..) 17 (by decide) fl_X7_explains_132 rfl dX7_explains_79 ?_
  refine lv_ishl hx hb dX7_explains_82 ?_
  refine lv_icmp_ge (tgt := 243) hx hb dX7_explains_83 (by decide) (fun hc => ?_) (fun hc => ?_)
  · have hv := hv.1 hc
    exact hret Y hv dX7_explains_243
  · have hv := hv.2 hc
    refine lv_iload_n hx hb dX7_explains_86 rfl (lv_at hl 2 rfl) ?_
    refine lv_iload_n hx hb dX7_explains_87 rfl (lv_at hl 1 rfl) ?_
    refine lv_iconst (v := (-1)) hx hb dX7_explains_88 (by decide) ?_
    refine lv_ixor hx hb dX7_explains_89 ?_
    refine lv_iand hx hb dX7_explains_90 ?_
    refine lv_if_eq (tgt := 97) hx hb dX7_explains_91 (by decide) (fun hc => ?_) (fun hc => ?_)
    · have hv := hv.1 hc
      refine lv_iconst (v := 1) hx hb dX7_explains_97 (by decide) ?_
      refine z_topi hv (fun x4_1 ex4_1 hv => ?_)
      refine lv_istore (lv' := [(4, .int x4_1), (0, .ref (a 7 99)), (2, .int x2), (3, .int x3)]) hx hb dX7_explains_98 hl (by decide) rfl (fun ls hl => ?_)
      refine lv_iconst (v := 0) hx hb dX7_explains_100 (by decide) ?_
      refine z_topi hv (fun x5_2 ex5_2 hv => ?_)
      refine lv_istore (lv' := [(5, .int x5_2), (4, .int x4_1), (0, .ref (a 7 99)), (2, .int x2), (3, .int x3)]) hx hb dX7_explains_101 hl (by decide) rfl (fun ls hl => ?_)
      exact hJ103 _ _ _ _ _ _ _ _ hv Y (lv_sub hl [2, 3, 4, 1, 0] rfl)
    · have hv := hv.2 hc
      refine lv_goto (tgt := 237) hx hb dX7_explains_94 (by decide) ?_
      obtain ⟨x3_3, ex3_3, hv⟩ := z_nv hv
      refine lv_iinc (v := x3_3) (lv' := [(3, .int x3_3), (0, .ref (a 7 99)), (2, .int x2)]) hx hb dX7_explains_237 hl (k := 2) rfl (by rw [ex3_3]; rfl) (by decide) rfl (fun ls hl => ?_)
      refine lv_goto (tgt := 76) hx hb dX7_explains_240 (by decide) ?_
      exact hJ76 _ _ _ _ _ _ hv Y (lv_sub hl [1, 2, 0] rfl)

def wp_X7_explains_217 (J11 : Int32 → Int32 → Int32 → zSt → Prop) (J76 : Int32 → Int32 → zSt → Prop) (J103 : Int32 → Int32 → Int32 → Int32 → zSt → Prop) (Q1 : zSt → Prop) (x2 : Int32) (x3 : Int32) (u7 : zSt) : Prop :=
  ∀ u7_1 : zSt, u7_1 = zI u7 27 ((u7.1 27) + 1) → ∀ u7_2 : zSt, u7_2 = zI u7_1 28 ((u7_1.1 28) &&& x3) → ∀ x3_3 : Int32, x3_3 = x3 + 1 → J76 x2 x3_3 u7_2

set_option maxHeartbeats 4000000 in
set_option maxRecDepth 100000 in
theorem bk_X7_explains_217 {a : Nat → Nat → Nat} {J11 : Int32 → Int32 → Int32 → zSt → Prop} {J76 : Int32 → Int32 → zSt → Prop} {J103 : Int32 → Int32 → Int32 → Int32 → zSt → Prop} {Q1 : zSt → Prop} {x2 : Int32} {x3 : Int32} {u7 : zSt} (C : zCx p s m args c cX7_explains 6 RX7 wsX7_explains D cI cZ cJ A) (Y : zDy D A s.heap (k7 a cI cZ u7) H locs) (hl : lv_has ls 6 [(0, .ref (a 7 99)), (2, .int x2), (3, .int x3)]) (hret : ∀ {pc : Nat} {H : Heap} {locs : List Loc} {ls : Array Slot} {u : zSt}, zDy D A s.heap ((fun u : zSt => k7 a cI cZ u) u) H locs → Q1 u → decode cX7_explains pc = .ok (.return_, 1) → W p l e ({ frames := 1, cells := 0, slots := 0, locals := 24 } : Room) s m args below meth c H locs 0 0 Q (F0 m pc ls [])) (hJ11 : ∀ (x1 : Int32) (x2 : Int32) (x3 : Int32) (u7 : zSt) (H : Heap) (locs : List Loc) (ls : Array Slot), J11 x1 x2 x3 u7 → zDy D A s.heap (k7 a cI cZ u7) H locs → lv_has ls 6 [(0, .ref (a 7 99)), (1, .int x1), (2, .int x2), (3, .int x3)] → W p l e ({ frames := 1, cells := 0, slots := 0, locals := 24 } : Room) s m args below meth c H locs 0 0 Q (F0 m 11 ls [])) (hJ76 : ∀ (x2 : Int32) (x3 : Int32) (u7 : zSt) (H : Heap) (locs : List Loc) (ls : Array Slot), J76 x2 x3 u7 → zDy D A s.heap (k7 a cI cZ u7) H locs → lv_has ls 6 [(0, .ref (a 7 99)), (2, .int x2), (3, .int x3)] → W p l e ({ frames := 1, cells := 0, slots := 0, locals := 24 } : Room) s m args below meth c H locs 0 0 Q (F0 m 76 ls [])) (hJ103 : ∀ (x2 : Int32) (x3 : Int32) (x4 : Int32) (x5 : Int32) (u7 : zSt) (H : Heap) (locs : List Loc) (ls : Array Slot), J103 x2 x3 x4 x5 u7 → zDy D A s.heap (k7 a cI cZ u7) H locs → lv_has ls 6 [(0, .ref (a 7 99)), (2, .int x2), (3, .int x3), (4, .int x4), (5, .int x5)] → W p l e ({ frames := 1, cells := 0, slots := 0, locals := 24 } : Room) s m args below meth c H locs 0 0 Q (F0 m 103 ls [])) (hv : wp_X7_explains_217 J11 J76 J103 Q1 x2 x3 u7) : W p l e ({ frames := 1, cells := 0, slots := 0, locals := 24 } : Room) s m args below meth c H locs 0 0 Q (F0 m 217 ls []) := by
  unfold wp_X7_explains_217 at hv
  obtain ⟨hx, hb, hml, hown, hts, hK, hA⟩ := id C
  refine lv_aload_n hx hb dX7_explains_217 rfl (lv_at hl 0 rfl) ?_
  refine lv_dup hx hb dX7_explains_218 rfl ?_
  refine z_get C Y (Cn := RX7) (T := TX7) (N := 42) in_X7_explains_7 rfl (ge7_7 ..) 27 (by decide) fl_X7_explains_170 rfl dX7_explains_219 ?_
  refine lv_iconst (v := 1) hx hb dX7_explains_222 (by decide) ?_
  refine lv_iadd hx hb dX7_explains_223 ?_
  refine z_putI C Y (Cn := RX7) (T := TX7) (N := 42) in_X7_explains_7 rfl tyX7 tyX7_ok nmX7 (ge7_7 ..) 27 (by decide) fl_X7_explains_170 rfl (by decide +kernel) (Nat.le_of_ble_eq_true rfl) (si7_7_27 ..) dX7_explains_224 (fun H locs Y => ?_)
  obtain ⟨u7_1, eu7_1, Y, hv⟩ := z_nm (kf := fun z => (k7 a cI cZ z)) Y hv
  refine lv_aload_n hx hb dX7_explains_227 rfl (lv_at hl 0 rfl) ?_
  refine lv_dup hx hb dX7_explains_228 rfl ?_
  refine z_get C Y (Cn := RX7) (T := TX7) (N := 42) in_X7_explains_7 rfl (ge7_7 ..) 28 (by decide) fl_X7_explains_173 rfl dX7_explains_229 ?_
  refine lv_iload_n hx hb dX7_explains_232 rfl (lv_at hl 2 rfl) ?_
  refine lv_iand hx hb dX7_explains_233 ?_
  refine z_putI C Y (Cn := RX7) (T := TX7) (N := 42) in_X7_explains_7 rfl tyX7 tyX7_ok nmX7 (ge7_7 ..) 28 (by decide) fl_X7_explains_173 rfl (by decide +kernel) (Nat.le_of_ble_eq_true rfl) (si7_7_28 ..) dX7_explains_234 (fun H locs Y => ?_)
  obtain ⟨u7_2, eu7_2, Y, hv⟩ := z_nm (kf := fun z => (k7 a cI cZ z)) Y hv
  obtain ⟨x3_3, ex3_3, hv⟩ := z_nv hv
  refine lv_iinc (v := x3_3) (lv' := [(3, .int x3_3), (0, .ref (a 7 99)), (2, .int x2)]) hx hb dX7_explains_237 hl (k := 2) rfl (by rw [ex3_3]; rfl) (by decide) rfl (fun ls hl => ?_)
  refine lv_goto (tgt := 76) hx hb dX7_explains_240 (by decide) ?_
  exact hJ76 _ _ _ _ _ _ hv Y (lv_sub hl [1, 2, 0] rfl)

def wp_X7_explains_201 (J11 : Int32 → Int32 → Int32 → zSt → Prop) (J76 : Int32 → Int32 → zSt → Prop) (J103 : Int32 → Int32 → Int32 → Int32 → zSt → Prop) (Q1 : zSt → Prop) (x2 : Int32) (x3 : Int32) (x5 : Int32) (u7 : zSt) : Prop :=
  ∀ u7_1 : zSt, u7_1 = zI u7 26 x5 → ∀ u7_2 : zSt, u7_2 = zI u7_1 27 0 → ∀ u7_3 : zSt, u7_3 = zI u7_2 28 x3 → wp_X7_explains_217 J11 J76 J103 Q1 x2 x3 u7_3

set_option maxHeartbeats 4000000 in
set_option maxRecDepth 100000 in
theorem bk_X7_explains_201 {a : Nat → Nat → Nat} {J11 : Int32 → Int32 → Int32 → zSt → Prop} {J76 : Int32 → Int32 → zSt → Prop} {J103 : Int32 → Int32 → Int32 → Int32 → zSt → Prop} {Q1 : zSt → Prop} {x2 : Int32} {x3 : Int32} {x5 : Int32} {u7 : zSt} (C : zCx p s m args c cX7_explains 6 RX7 wsX7_explains D cI cZ cJ A) (Y : zDy D A s.heap (k7 a cI cZ u7) H locs) (hl : lv_has ls 6 [(0, .ref (a 7 99)), (2, .int x2), (3, .int x3), (5, .int x5)]) (hret : ∀ {pc : Nat} {H : Heap} {locs : List Loc} {ls : Array Slot} {u : zSt}, zDy D A s.heap ((fun u : zSt => k7 a cI cZ u) u) H locs → Q1 u → decode cX7_explains pc = .ok (.return_, 1) → W p l e ({ frames := 1, cells := 0, slots := 0, locals := 24 } : Room) s m args below meth c H locs 0 0 Q (F0 m pc ls [])) (hJ11 : ∀ (x1 : Int32) (x2 : Int32) (x3 : Int32) (u7 : zSt) (H : Heap) (locs : List Loc) (ls : Array Slot), J11 x1 x2 x3 u7 → zDy D A s.heap (k7 a cI cZ u7) H locs → lv_has ls 6 [(0, .ref (a 7 99)), (1, .int x1), (2, .int x2), (3, .int x3)] → W p l e ({ frames := 1, cells := 0, slots := 0, locals := 24 } : Room) s m args below meth c H locs 0 0 Q (F0 m 11 ls [])) (hJ76 : ∀ (x2 : Int32) (x3 : Int32) (u7 : zSt) (H : Heap) (locs : List Loc) (ls : Array Slot), J76 x2 x3 u7 → zDy D A s.heap (k7 a cI cZ u7) H locs → lv_has ls 6 [(0, .ref (a 7 99)), (2, .int x2), (3, .int x3)] → W p l e ({ frames := 1, cells := 0, slots := 0, locals := 24 } : Room) s m args below meth c H locs 0 0 Q (F0 m 76 ls [])) (hJ103 : ∀ (x2 : Int32) (x3 : Int32) (x4 : Int32) (x5 : Int32) (u7 : zSt) (H : Heap) (locs : List Loc) (ls : Array Slot), J103 x2 x3 x4 x5 u7 → zDy D A s.heap (k7 a cI cZ u7) H locs → lv_has ls 6 [(0, .ref (a 7 99)), (2, .int x2), (3, .int x3), (4, .int x4), (5, .int x5)] → W p l e ({ frames := 1, cells := 0, slots := 0, locals := 24 } : Room) s m args below meth c H locs 0 0 Q (F0 m 103 ls [])) (hv : wp_X7_explains_201 J11 J76 J103 Q1 x2 x3 x5 u7) : W p l e ({ frames := 1, cells := 0, slots := 0, locals := 24 } : Room) s m args below meth c H locs 0 0 Q (F0 m 201 ls []) := by
  unfold wp_X7_explains_201 at hv
  obtain ⟨hx, hb, hml, hown, hts, hK, hA⟩ := id C
  refine lv_aload_n hx hb dX7_explains_201 rfl (lv_at hl 0 rfl) ?_
  refine lv_iload hx hb dX7_explains_202 (lv_at hl 3 rfl) ?_
  refine z_putI C Y (Cn := RX7) (T := TX7) (N := 42) in_X7_explains_7 rfl tyX7 tyX7_ok nmX7 (ge7_7 ..) 26 (by decide) fl_X7_explains_167 rfl (by decide +kernel) (Nat.le_of_ble_eq_true rfl) (si7_7_26 ..) dX7_explains_204 (fun H locs Y => ?_)
  obtain ⟨u7_1, eu7_1, Y, hv⟩ := z_nm (kf := fun z => (k7 a cI cZ z)) Y hv
  refine lv_aload_n hx hb dX7_explains_207 rfl (lv_at hl 0 rfl) ?_
  refine lv_iconst (v := 0) hx hb dX7_explains_208 (by decide) ?_
  refine z_putI C Y (Cn := RX7) (T := TX7) (N := 42) in_X7_explains_7 rfl tyX7 tyX7_ok nmX7 (ge7_7 ..) 27 (by decide) fl_X7_explains_170 rfl (by decide +kernel) (Nat.le_of_ble_eq_true rfl) (si7_7_27 ..) dX7_explains_209 (fun H locs Y => ?_)
  obtain ⟨u7_2, eu7_2, Y, hv⟩ := z_nm (kf := fun z => (k7 a cI cZ z)) Y hv
  refine lv_aload_n hx hb dX7_explains_212 rfl (lv_at hl 0 rfl) ?_
  refine lv_iload_n hx hb dX7_explains_213 rfl (lv_at hl 2 rfl) ?_
  refine z_putI C Y (Cn := RX7) (T := TX7) (N := 42) in_X7_explains_7 rfl tyX7 tyX7_ok nmX7 (ge7_7 ..) 28 (by decide) fl_X7_explains_173 rfl (by decide +kernel) (Nat.le_of_ble_eq_true rfl) (si7_7_28 ..) dX7_explains_214 (fun H locs Y => ?_)
  obtain ⟨u7_3, eu7_3, Y, hv⟩ := z_nm (kf := fun z => (k7 a cI cZ z)) Y hv
  exact bk_X7_explains_217 C Y (lv_sub hl [0, 1, 2] rfl) hret hJ11 hJ76 hJ103 hv

def wp_X7_explains_185 (J11 : Int32 → Int32 → Int32 → zSt → Prop) (J76 : Int32 → Int32 → zSt → Prop) (J103 : Int32 → Int32 → Int32 → Int32 → zSt → Prop) (Q1 : zSt → Prop) (x2 : Int32) (x3 : Int32) (x5 : Int32) (u7 : zSt) : Prop :=
  ((u7.1 26) < (0 : Int32) → wp_X7_explains_201 J11 J76 J103 Q1 x2 x3 x5 u7) ∧ (¬ (u7.1 26) < (0 : Int32) → ((u7.1 26) ≤ x5 → wp_X7_explains_217 J11 J76 J103 Q1 x2 x3 u7) ∧ (¬ (u7.1 26) ≤ x5 → wp_X7_explains_201 J11 J76 J103 Q1 x2 x3 x5 u7))

set_option maxHeartbeats 4000000 in
set_option maxRecDepth 100000 in
theorem bk_X7_explains_185 {a : Nat → Nat → Nat} {J11 : Int32 → Int32 → Int32 → zSt → Prop} {J76 : Int32 → Int32 → zSt → Prop} {J103 : Int32 → Int32 → Int32 → Int32 → zSt → Prop} {Q1 : zSt → Prop} {x2 : Int32} {x3 : Int32} {x5 : Int32} {u7 : zSt} (C : zCx p s m args c cX7_explains 6 RX7 wsX7_explains D cI cZ cJ A) (Y : zDy D A s.heap (k7 a cI cZ u7) H locs) (hl : lv_has ls 6 [(0, .ref (a 7 99)), (2, .int x2), (3, .int x3), (5, .int x5)]) (hret : ∀ {pc : Nat} {H : Heap} {locs : List Loc} {ls : Array Slot} {u : zSt}, zDy D A s.heap ((fun u : zSt => k7 a cI cZ u) u) H locs → Q1 u → decode cX7_explains pc = .ok (.return_, 1) → W p l e ({ frames := 1, cells := 0, slots := 0, locals := 24 } : Room) s m args below meth c H locs 0 0 Q (F0 m pc ls [])) (hJ11 : ∀ (x1 : Int32) (x2 : Int32) (x3 : Int32) (u7 : zSt) (H : Heap) (locs : List Loc) (ls : Array Slot), J11 x1 x2 x3 u7 → zDy D A s.heap (k7 a cI cZ u7) H locs → lv_has ls 6 [(0, .ref (a 7 99)), (1, .int x1), (2, .int x2), (3, .int x3)] → W p l e ({ frames := 1, cells := 0, slots := 0, locals := 24 } : Room) s m args below meth c H locs 0 0 Q (F0 m 11 ls [])) (hJ76 : ∀ (x2 : Int32) (x3 : Int32) (u7 : zSt) (H : Heap) (locs : List Loc) (ls : Array Slot), J76 x2 x3 u7 → zDy D A s.heap (k7 a cI cZ u7) H locs → lv_has ls 6 [(0, .ref (a 7 99)), (2, .int x2), (3, .int x3)] → W p l e ({ frames := 1, cells := 0, slots := 0, locals := 24 } : Room) s m args below meth c H locs 0 0 Q (F0 m 76 ls [])) (hJ103 : ∀ (x2 : Int32) (x3 : Int32) (x4 : Int32) (x5 : Int32) (u7 : zSt) (H : Heap) (locs : List Loc) (ls : Array Slot), J103 x2 x3 x4 x5 u7 → zDy D A s.heap (k7 a cI cZ u7) H locs → lv_has ls 6 [(0, .ref (a 7 99)), (2, .int x2), (3, .int x3), (4, .int x4), (5, .int x5)] → W p l e ({ frames := 1, cells := 0, slots := 0, locals := 24 } : Room) s m args below meth c H locs 0 0 Q (F0 m 103 ls [])) (hv : wp_X7_explains_185 J11 J76 J103 Q1 x2 x3 x5 u7) : W p l e ({ frames := 1, cells := 0, slots := 0, locals := 24 } : Room) s m args below meth c H locs 0 0 Q (F0 m 185 ls []) := by
  unfold wp_X7_explains_185 at hv
  obtain ⟨hx, hb, hml, hown, hts, hK, hA⟩ := id C
  refine lv_aload_n hx hb dX7_explains_185 rfl (lv_at hl 0 rfl) ?_
  refine z_get C Y (Cn := RX7) (T := TX7) (N := 42) in_X7_explains_7 rfl (ge7_7 ..) 26 (by decide) fl_X7_explains_167 rfl dX7_explains_186 ?_
  refine lv_if_lt (tgt := 201) hx hb dX7_explains_189 (by decide) (fun hc => ?_) (fun hc => ?_)
  · have hv := hv.1 hc
    exact bk_X7_explains_201 C Y (lv_sub hl [0, 1, 2, 3] rfl) hret hJ11 hJ76 hJ103 hv
  · have hv := hv.2 hc
    refine lv_iload hx hb dX7_explains_192 (lv_at hl 3 rfl) ?_
    refine lv_aload_n hx hb dX7_explains_194 rfl (lv_at hl 0 rfl) ?_
    refine z_get C Y (Cn := RX7) (T := TX7) (N := 42) in_X7_explains_7 rfl (ge7_7 ..) 26 (by decide) fl_X7_explains_167 rfl dX7_explains_195 ?_
    refine lv_icmp_ge (tgt := 217) hx hb dX7_explains_198 (by decide) (fun hc => ?_) (fun hc => ?_)
    · have hv := hv.1 hc
      exact bk_X7_explains_217 C Y (lv_sub hl [0, 1, 2] rfl) hret hJ11 hJ76 hJ103 hv
    · have hv := hv.2 hc
      exact bk_X7_explains_201 C Y (lv_sub hl [0, 1, 2, 3] rfl) hret hJ11 hJ76 hJ103 hv

def wp_X7_explains_152 (J11 : Int32 → Int32 → Int32 → zSt → Prop) (J76 : Int32 → Int32 → zSt → Prop) (J103 : Int32 → Int32 → Int32 → Int32 → zSt → Prop) (Q1 : zSt → Prop) (x2 : Int32) (x3 : Int32) (x4 : Int32) (u7 : zSt) : Prop :=
  (x4 = (0 : Int32) → ∀ x3_4 : Int32, x3_4 = x3 + 1 → J76 x2 x3_4 u7) ∧ (¬ x4 = (0 : Int32) → TJ6_bitCount_0f7a4 (fun (r_1 : Int32) (_ : Unit) => ∀ x5_2 : Int32, x5_2 = r_1 → ((u7.1 26) < (0 : Int32) → wp_X7_explains_185 J11 J76 J103 Q1 x2 x3 x5_2 u7) ∧ (¬ (u7.1 26) < (0 : Int32) → (x5_2 ≤ (u7.1 26) → wp_X7_explains_185 J11 J76 J103 Q1 x2 x3 x5_2 u7) ∧ (¬ x5_2 ≤ (u7.1 26) → ∀ x3_3 : Int32, x3_3 = x3 + 1 → J76 x2 x3_3 u7))) x3 )

set_option maxHeartbeats 4000000 in
set_option maxRecDepth 100000 in
theorem bk_X7_explains_152 {a : Nat → Nat → Nat} {J11 : Int32 → Int32 → Int32 → zSt → Prop} {J76 : Int32 → Int32 → zSt → Prop} {J103 : Int32 → Int32 → Int32 → Int32 → zSt → Prop} {Q1 : zSt → Prop} {x2 : Int32} {x3 : Int32} {x4 : Int32} {u7 : zSt} (C : zCx p s m args c cX7_explains 6 RX7 wsX7_explains D cI cZ cJ A) (Y : zDy D A s.heap (k7 a cI cZ u7) H locs) (hl : lv_has ls 6 [(0, .ref (a 7 99)), (2, .int x2), (3, .int x3), (4, .int x4)]) (hret : ∀ {pc : Nat} {H : Heap} {locs : List Loc} {ls : Array Slot} {u : zSt}, zDy D A s.heap ((fun u : zSt => k7 a cI cZ u) u) H locs → Q1 u → decode cX7_explains pc = .ok (.return_, 1) → W p l e ({ frames := 1, cells := 0, slots := 0, locals := 24 } : Room) s m args below meth c H locs 0 0 Q (F0 m pc ls [])) (hJ11 : ∀ (x1 : Int32) (x2 : Int32) (x3 : Int32) (u7 : zSt) (H : Heap) (locs : List Loc) (ls : Array Slot), J11 x1 x2 x3 u7 → zDy D A s.heap (k7 a cI cZ u7) H locs → lv_has ls 6 [(0, .ref (a 7 99)), (1, .int x1), (2, .int x2), (3, .int x3)] → W p l e ({ frames := 1, cells := 0, slots := 0, locals := 24 } : Room) s m args below meth c H locs 0 0 Q (F0 m 11 ls [])) (hJ76 : ∀ (x2 : Int32) (x3 : Int32) (u7 : zSt) (H : Heap) (locs : List Loc) (ls : Array Slot), J76 x2 x3 u7 → zDy D A s.heap (k7 a cI cZ u7) H locs → lv_has ls 6 [(0, .ref (a 7 99)), (2, .int x2), (3, .int x3)] → W p l e ({ frames := 1, cells := 0, slots := 0, locals := 24 } : Room) s m args below meth c H locs 0 0 Q (F0 m 76 ls [])) (hJ103 : ∀ (x2 : Int32) (x3 : Int32) (x4 : Int32) (x5 : Int32) (u7 : zSt) (H : Heap) (locs : List Loc) (ls : Array Slot), J103 x2 x3 x4 x5 u7 → zDy D A s.heap (k7 a cI cZ u7) H locs → lv_has ls 6 [(0, .ref (a 7 99)), (2, .int x2), (3, .int x3), (4, .int x4), (5, .int x5)] → W p l e ({ frames := 1, cells := 0, slots := 0, locals := 24 } : Room) s m args below meth c H locs 0 0 Q (F0 m 103 ls [])) (hv : wp_X7_explains_152 J11 J76 J103 Q1 x2 x3 x4 u7) : W p l e ({ frames := 1, cells := 0, slots := 0, locals := 24 } : Room) s m args below meth c H locs 0 0 Q (F0 m 152 ls []) := by
  unfold wp_X7_explains_152 at hv
  obtain ⟨hx, hb, hml, hown, hts, hK, hA⟩ := id C
  refine lv_iload hx hb dX7_explains_152 (lv_at hl 3 rfl) ?_
  refine lv_if_ne (tgt := 160) hx hb dX7_explains_154 (by decide) (fun hc => ?_) (fun hc => ?_)
  · have hv := hv.2 hc
    refine lv_iload_n hx hb dX7_explains_160 rfl (lv_at hl 2 rfl) ?_
    refine z_callSi C Y (c_J6_bitCount_0f7a4 l hv) (zFr.nil _) (va_cwS 1 hts gX7_explains_J6_bitCount_0f7a4 rfl rfl rfl (by decide +kernel) ⟨(Nat.le_of_ble_eq_true rfl), (Nat.le_of_ble_eq_true rfl)⟩) rfl hl.1 rfl (Nat.le_of_ble_eq_true rfl) dX7_explains_161 ⟨Nat.zero_le _, Nat.zero_le _⟩ (fun r_1 _ H locs Y hv => ?_)
    refine z_topi hv (fun x5_2 ex5_2 hv => ?_)
    refine lv_istore (lv' := [(5, .int x5_2), (0, .ref (a 7 99)), (2, .int x2), (3, .int x3), (4, .int x4)]) hx hb dX7_explains_164 hl (by decide) rfl (fun ls hl => ?_)
    refine lv_aload_n hx hb dX7_explains_166 rfl (lv_at hl 1 rfl) ?_
    refine z_get C Y (Cn := RX7) (T := TX7) (N := 42) in_X7_explains_7 rfl (ge7_7 ..) 26 (by decide) fl_X7_explains_167 rfl dX7_explains_167 ?_
    refine lv_if_lt (tgt := 185) hx hb dX7_explains_170 (by decide) (fun hc => ?_) (fun hc => ?_)
    · have hv := hv.1 hc
      exact bk_X7_explains_185 C Y (lv_sub hl [1, 2, 3, 0] rfl) hret hJ11 hJ76 hJ103 hv
    · have hv := hv.2 hc
      refine lv_iload hx hb dX7_explains_173 (lv_at hl 0 rfl) ?_
      refine lv_aload_n hx hb dX7_explains_175 rfl (lv_at hl 1 rfl) ?_
      refine z_get C Y (Cn := RX7) (T := TX7) (N := 42) in_X7_explains_7 rfl (ge7_7 ..) 26 (by decide) fl_X7_explains_167 rfl dX7_explains_176 ?_
      refine lv_icmp_le (tgt := 185) hx hb dX7_explains_179 (by decide) (fun hc => ?_) (fun hc => ?_)
      · have hv := hv.1 hc
        exact bk_X7_explains_185 C Y (lv_sub hl [1, 2, 3, 0] rfl) hret hJ11 hJ76 hJ103 hv
      · have hv := hv.2 hc
        refine lv_goto (tgt := 237) hx hb dX7_explains_182 (by decide) ?_
        obtain ⟨x3_3, ex3_3, hv⟩ := z_nv hv
        refine lv_iinc (v := x3_3) (lv' := [(3, .int x3_3), (5, .int x5_2), (0, .ref (a 7 99)), (2, .int x2), (4, .int x4)]) hx hb dX7_explains_237 hl (k := 3) rfl (by rw [ex3_3]; rfl) (by decide) rfl (fun ls hl => ?_)
        refine lv_goto (tgt := 76) hx hb dX7_explains_240 (by decide) ?_
        exact hJ76 _ _ _ _ _ _ hv Y (lv_sub hl [2, 3, 0] rfl)
  · have hv := hv.1 hc
    refine lv_goto (tgt := 237) hx hb dX7_explains_157 (by decide) ?_
    obtain ⟨x3_4, ex3_4, hv⟩ := z_nv hv
    refine lv_iinc (v := x3_4) (lv' := [(3, .int x3_4), (0, .ref (a 7 99)), (2, .int x2), (4, .int x4)]) hx hb dX7_explains_237 hl (k := 2) rfl (by rw [ex3_4]; rfl) (by decide) rfl (fun ls hl => ?_)
    refine lv_goto (tgt := 76) hx hb dX7_explains_240 (by decide) ?_
    exact hJ76 _ _ _ _ _ _ hv Y (lv_sub hl [1, 2, 0] rfl)

def wp_X7_explains_144 (J11 : Int32 → Int32 → Int32 → zSt → Prop) (J76 : Int32 → Int32 → zSt → Prop) (J103 : Int32 → Int32 → Int32 → Int32 → zSt → Prop) (Q1 : zSt → Prop) (x2 : Int32) (x3 : Int32) (x5 : Int32) (t0 : Int32) (u7 : zSt) : Prop :=
  ∀ x4_1 : Int32, x4_1 = t0 → ∀ x5_2 : Int32, x5_2 = x5 + 1 → J103 x2 x3 x4_1 x5_2 u7

set_option maxHeartbeats 4000000 in
set_option maxRecDepth 100000 in
theorem bk_X7_explains_144 {a : Nat → Nat → Nat} {J11 : Int32 → Int32 → Int32 → zSt → Prop} {J76 : Int32 → Int32 → zSt → Prop} {J103 : Int32 → Int32 → Int32 → Int32 → zSt → Prop} {Q1 : zSt → Prop} {x2 : Int32} {x3 : Int32} {x5 : Int32} {t0 : Int32} {u7 : zSt} (C : zCx p s m args c cX7_explains 6 RX7 wsX7_explains D cI cZ cJ A) (Y : zDy D A s.heap (k7 a cI cZ u7) H locs) (hl : lv_has ls 6 [(0, .ref (a 7 99)), (2, .int x2), (3, .int x3), (5, .int x5)]) (hret : ∀ {pc : Nat} {H : Heap} {locs : List Loc} {ls : Array Slot} {u : zSt}, zDy D A s.heap ((fun u : zSt => k7 a cI cZ u) u) H locs → Q1 u → decode cX7_explains pc = .ok (.return_, 1) → W p l e ({ frames := 1, cells := 0, slots := 0, locals := 24 } : Room) s m args below meth c H locs 0 0 Q (F0 m pc ls [])) (hJ11 : ∀ (x1 : Int32) (x2 : Int32) (x3 : Int32) (u7 : zSt) (H : Heap) (locs : List Loc) (ls : Array Slot), J11 x1 x2 x3 u7 → zDy D A s.heap (k7 a cI cZ u7) H locs → lv_has ls 6 [(0, .ref (a 7 99)), (1, .int x1), (2, .int x2), (3, .int x3)] → W p l e ({ frames := 1, cells := 0, slots := 0, locals := 24 } : Room) s m args below meth c H locs 0 0 Q (F0 m 11 ls [])) (hJ76 : ∀ (x2 : Int32) (x3 : Int32) (u7 : zSt) (H : Heap) (locs : List Loc) (ls : Array Slot), J76 x2 x3 u7 → zDy D A s.heap (k7 a cI cZ u7) H locs → lv_has ls 6 [(0, .ref (a 7 99)), (2, .int x2), (3, .int x3)] → W p l e ({ frames := 1, cells := 0, slots := 0, locals := 24 } : Room) s m args below meth c H locs 0 0 Q (F0 m 76 ls [])) (hJ103 : ∀ (x2 : Int32) (x3 : Int32) (x4 : Int32) (x5 : Int32) (u7 : zSt) (H : Heap) (locs : List Loc) (ls : Array Slot), J103 x2 x3 x4 x5 u7 → zDy D A s.heap (k7 a cI cZ u7) H locs → lv_has ls 6 [(0, .ref (a 7 99)), (2, .int x2), (3, .int x3), (4, .int x4), (5, .int x5)] → W p l e ({ frames := 1, cells := 0, slots := 0, locals := 24 } : Room) s m args below meth c H locs 0 0 Q (F0 m 103 ls [])) (hv : wp_X7_explains_144 J11 J76 J103 Q1 x2 x3 x5 t0 u7) : W p l e ({ frames := 1, cells := 0, slots := 0, locals := 24 } : Room) s m args below meth c H locs 0 0 Q (F0 m 144 ls [.int t0]) := by
  unfold wp_X7_explains_144 at hv
  obtain ⟨hx, hb, hml, hown, hts, hK, hA⟩ := id C
  refine z_topi hv (fun x4_1 ex4_1 hv => ?_)
  refine lv_istore (lv' := [(4, .int x4_1), (0, .ref (a 7 99)), (2, .int x2), (3, .int x3), (5, .int x5)]) hx hb dX7_explains_144 hl (by decide) rfl (fun ls hl => ?_)
  obtain ⟨x5_2, ex5_2, hv⟩ := z_nv hv
  refine lv_iinc (v := x5_2) (lv' := [(5, .int x5_2), (4, .int x4_1), (0, .ref (a 7 99)), (2, .int x2), (3, .int x3)]) hx hb dX7_explains_146 hl (k := 4) rfl (by rw [ex5_2]; rfl) (by decide) rfl (fun ls hl => ?_)
  refine lv_goto (tgt := 103) hx hb dX7_explains_149 (by decide) ?_
  exact hJ103 _ _ _ _ _ _ _ _ hv Y (lv_sub hl [2, 3, 4, 1, 0] rfl)

def wp_X7_explains_139 (J11 : Int32 → Int32 → Int32 → zSt → Prop) (J76 : Int32 → Int32 → zSt → Prop) (J103 : Int32 → Int32 → Int32 → Int32 → zSt → Prop) (Q1 : zSt → Prop) (x2 : Int32) (x3 : Int32) (x5 : Int32) (u7 : zSt) : Prop :=
  wp_X7_explains_144 J11 J76 J103 Q1 x2 x3 x5 1 u7

set_option maxHeartbeats 4000000 in
set_option maxRecDepth 100000 in
theorem bk_X7_explains_139 {a : Nat → Nat → Nat} {J11 : Int32 → Int32 → Int32 → zSt → Prop} {J76 : Int32 → Int32 → zSt → Prop} {J103 : Int32 → Int32 → Int32 → Int32 → zSt → Prop} {Q1 : zSt → Prop} {x2 : Int32} {x3 : Int32} {x5 : Int32} {u7 : zSt} (C : zCx p s m args c cX7_explains 6 RX7 wsX7_explains D cI cZ cJ A) (Y : zDy D A s.heap (k7 a cI cZ u7) H locs) (hl : lv_has ls 6 [(0, .ref (a 7 99)), (2, .int x2), (3, .int x3), (5, .int x5)]) (hret : ∀ {pc : Nat} {H : Heap} {locs : List Loc} {ls : Array Slot} {u : zSt}, zDy D A s.heap ((fun u : zSt => k7 a cI cZ u) u) H locs → Q1 u → decode cX7_explains pc = .ok (.return_, 1) → W p l e ({ frames := 1, cells := 0, slots := 0, locals := 24 } : Room) s m args below meth c H locs 0 0 Q (F0 m pc ls [])) (hJ11 : ∀ (x1 : Int32) (x2 : Int32) (x3 : Int32) (u7 : zSt) (H : Heap) (locs : List Loc) (ls : Array Slot), J11 x1 x2 x3 u7 → zDy D A s.heap (k7 a cI cZ u7) H locs → lv_has ls 6 [(0, .ref (a 7 99)), (1, .int x1), (2, .int x2), (3, .int x3)] → W p l e ({ frames := 1, cells := 0, slots := 0, locals := 24 } : Room) s m args below meth c H locs 0 0 Q (F0 m 11 ls [])) (hJ76 : ∀ (x2 : Int32) (x3 : Int32) (u7 : zSt) (H : Heap) (locs : List Loc) (ls : Array Slot), J76 x2 x3 u7 → zDy D A s.heap (k7 a cI cZ u7) H locs → lv_has ls 6 [(0, .ref (a 7 99)), (2, .int x2), (3, .int x3)] → W p l e ({ frames := 1, cells := 0, slots := 0, locals := 24 } : Room) s m args below meth c H locs 0 0 Q (F0 m 76 ls [])) (hJ103 : ∀ (x2 : Int32) (x3 : Int32) (x4 : Int32) (x5 : Int32) (u7 : zSt) (H : Heap) (locs : List Loc) (ls : Array Slot), J103 x2 x3 x4 x5 u7 → zDy D A s.heap (k7 a cI cZ u7) H locs → lv_has ls 6 [(0, .ref (a 7 99)), (2, .int x2), (3, .int x3), (4, .int x4), (5, .int x5)] → W p l e ({ frames := 1, cells := 0, slots := 0, locals := 24 } : Room) s m args below meth c H locs 0 0 Q (F0 m 103 ls [])) (hv : wp_X7_explains_139 J11 J76 J103 Q1 x2 x3 x5 u7) : W p l e ({ frames := 1, cells := 0, slots := 0, locals := 24 } : Room) s m args below meth c H locs 0 0 Q (F0 m 139 ls []) := by
  unfold wp_X7_explains_139 at hv
  obtain ⟨hx, hb, hml, hown, hts, hK, hA⟩ := id C
  refine lv_iconst (v := 1) hx hb dX7_explains_139 (by decide) ?_
  refine lv_goto (tgt := 144) hx hb dX7_explains_140 (by decide) ?_
  exact bk_X7_explains_144 C Y (lv_sub hl [0, 1, 2, 3] rfl) hret hJ11 hJ76 hJ103 hv

def wp_X7_explains_103 (J11 : Int32 → Int32 → Int32 → zSt → Prop) (J76 : Int32 → Int32 → zSt → Prop) (J103 : Int32 → Int32 → Int32 → Int32 → zSt → Prop) (Q1 : zSt → Prop) (x2 : Int32) (x3 : Int32) (x4 : Int32) (x5 : Int32) (u7 : zSt) : Prop :=
  ((u7.1 19) ≤ x5 → wp_X7_explains_152 J11 J76 J103 Q1 x2 x3 x4 u7) ∧ (¬ (u7.1 19) ≤ x5 → (x4 = (0 : Int32) → wp_X7_explains_152 J11 J76 J103 Q1 x2 x3 x4 u7) ∧ (¬ x4 = (0 : Int32) → vp_in x5 60 ∧ (((u7.2 29 x5.toNatClampNeg) = (0 : Int32) → wp_X7_explains_139 J11 J76 J103 Q1 x2 x3 x5 u7) ∧ (¬ (u7.2 29 x5.toNatClampNeg) = (0 : Int32) → vp_in x5 60 ∧ ((((u7.2 18 x5.toNatClampNeg) &&& x3) = (0 : Int32) → wp_X7_explains_144 J11 J76 J103 Q1 x2 x3 x5 0 u7) ∧ (¬ ((u7.2 18 x5.toNatClampNeg) &&& x3) = (0 : Int32) → wp_X7_explains_139 J11 J76 J103 Q1 x2 x3 x5 u7))))))

set_option maxHeartbeats 4000000 in
set_option maxRecDepth 100000 in
theorem bk_X7_explains_103 {a : Nat → Nat → Nat} {J11 : Int32 → Int32 → Int32 → zSt → Prop} {J76 : Int32 → Int32 → zSt → Prop} {J103 : Int32 → Int32 → Int32 → Int32 → zSt → Prop} {Q1 : zSt → Prop} {x2 : Int32} {x3 : Int32} {x4 : Int32} {x5 : Int32} {u7 : zSt} (C : zCx p s m args c cX7_explains 6 RX7 wsX7_explains D cI cZ cJ A) (Y : zDy D A s.heap (k7 a cI cZ u7) H locs) (hl : lv_has ls 6 [(0, .ref (a 7 99)), (2, .int x2), (3, .int x3), (4, .int x4), (5, .int x5)]) (hret : ∀ {pc : Nat} {H : Heap} {locs : List Loc} {ls : Array Slot} {u : zSt}, zDy D A s.heap ((fun u : zSt => k7 a cI cZ u) u) H locs → Q1 u → decode cX7_explains pc = .ok (.return_, 1) → W p l e ({ frames := 1, cells := 0, slots := 0, locals := 24 } : Room) s m args below meth c H locs 0 0 Q (F0 m pc ls [])) (hJ11 : ∀ (x1 : Int32) (x2 : Int32) (x3 : Int32) (u7 : zSt) (H : Heap) (locs : List Loc) (ls : Array Slot), J11 x1 x2 x3 u7 → zDy D A s.heap (k7 a cI cZ u7) H locs → lv_has ls 6 [(0, .ref (a 7 99)), (1, .int x1), (2, .int x2), (3, .int x3)] → W p l e ({ frames := 1, cells := 0, slots := 0, locals := 24 } : Room) s m args below meth c H locs 0 0 Q (F0 m 11 ls [])) (hJ76 : ∀ (x2 : Int32) (x3 : Int32) (u7 : zSt) (H : Heap) (locs : List Loc) (ls : Array Slot), J76 x2 x3 u7 → zDy D A s.heap (k7 a cI cZ u7) H locs → lv_has ls 6 [(0, .ref (a 7 99)), (2, .int x2), (3, .int x3)] → W p l e ({ frames := 1, cells := 0, slots := 0, locals := 24 } : Room) s m args below meth c H locs 0 0 Q (F0 m 76 ls [])) (hJ103 : ∀ (x2 : Int32) (x3 : Int32) (x4 : Int32) (x5 : Int32) (u7 : zSt) (H : Heap) (locs : List Loc) (ls : Array Slot), J103 x2 x3 x4 x5 u7 → zDy D A s.heap (k7 a cI cZ u7) H locs → lv_has ls 6 [(0, .ref (a 7 99)), (2, .int x2), (3, .int x3), (4, .int x4), (5, .int x5)] → W p l e ({ frames := 1, cells := 0, slots := 0, locals := 24 } : Room) s m args below meth c H locs 0 0 Q (F0 m 103 ls [])) (hv : wp_X7_explains_103 J11 J76 J103 Q1 x2 x3 x4 x5 u7) : W p l e ({ frames := 1, cells := 0, slots := 0, locals := 24 } : Room) s m args below meth c H locs 0 0 Q (F0 m 103 ls []) := by
  unfold wp_X7_explains_103 at hv
  obtain ⟨hx, hb, hml, hown, hts, hK, hA⟩ := id C
  refine lv_iload hx hb dX7_explains_103 (lv_at hl 4 rfl) ?_
  refine lv_aload_n hx hb dX7_explains_105 rfl (lv_at hl 0 rfl) ?_
  refine z_get C Y (Cn := RX7) (T := TX7) (N := 42) in_X7_explains_7 rfl (ge7_7 ..) 19 (by decide) fl_X7_explains_142 rfl dX7_explains_106 ?_
  refine lv_icmp_ge (tgt := 152) hx hb dX7_explains_109 (by decide) (fun hc => ?_) (fun hc => ?_)
  · have hv := hv.1 hc
    exact bk_X7_explains_152 C Y (lv_sub hl [0, 1, 2, 3] rfl) hret hJ11 hJ76 hJ103 hv
  · have hv := hv.2 hc
    refine lv_iload hx hb dX7_explains_112 (lv_at hl 3 rfl) ?_
    refine lv_if_eq (tgt := 152) hx hb dX7_explains_114 (by decide) (fun hc => ?_) (fun hc => ?_)
    · have hv := hv.1 hc
      exact bk_X7_explains_152 C Y (lv_sub hl [0, 1, 2, 3] rfl) hret hJ11 hJ76 hJ103 hv
    · have hv := hv.2 hc
      refine lv_aload_n hx hb dX7_explains_117 rfl (lv_at hl 0 rfl) ?_
      refine z_get C Y (Cn := RX7) (T := TX7) (N := 42) in_X7_explains_7 rfl (ge7_7 ..) 29 (by decide) fl_X7_explains_59 rfl dX7_explains_118 ?_
      refine lv_iload hx hb dX7_explains_121 (lv_at hl 4 rfl) ?_
      obtain ⟨hi, hv⟩ := hv
      refine z_ldZ C Y (pa7_7_29 ..) hi dX7_explains_123 ?_
      refine lv_if_eq (tgt := 139) hx hb dX7_explains_124 (by decide) (fun hc => ?_) (fun hc => ?_)
      · have hv := hv.1 hc
        exact bk_X7_explains_139 C Y (lv_sub hl [0, 1, 2, 4] rfl) hret hJ11 hJ76 hJ103 hv
      · have hv := hv.2 hc
        refine lv_aload_n hx hb dX7_explains_127 rfl (lv_at hl 0 rfl) ?_
        refine z_get C Y (Cn := RX7) (T := TX7) (N := 42) in_X7_explains_7 rfl (ge7_7 ..) 18 (by decide) fl_X7_explains_43 rfl dX7_explains_128 ?_
        refine lv_iload hx hb dX7_explains_131 (lv_at hl 4 rfl) ?_
        obtain ⟨hi, hv⟩ := hv
        refine z_ldI C Y (pa7_7_18 ..) hi dX7_explains_133 ?_
        refine lv_iload_n hx hb dX7_explains_134 rfl (lv_at hl 2 rfl) ?_
        refine lv_iand hx hb dX7_explains_135 ?_
        refine lv_if_eq (tgt := 143) hx hb dX7_explains_136 (by decide) (fun hc => ?_) (fun hc => ?_)
        · have hv := hv.1 hc
          refine lv_iconst (v := 0) hx hb dX7_explains_143 (by decide) ?_
          exact bk_X7_explains_144 C Y (lv_sub hl [0, 1, 2, 4] rfl) hret hJ11 hJ76 hJ103 hv
        · have hv := hv.2 hc
          exact bk_X7_explains_139 C Y (lv_sub hl [0, 1, 2, 4] rfl) hret hJ11 hJ76 hJ103 hv

end
set_option maxHeartbeats 4000000 in
set_option maxRecDepth 100000 in
theorem k_X7_explains (l : Launch) {D : va_G} {cI cZ cJ : ClassId} {a : Nat → Nat → Nat} {Q1 : zSt → Prop} {p1 : Int32} {u7 : zSt} (I11 : Nat → Int32 → Int32 → Int32 → zSt → Prop) (I76 : Nat → Int32 → Int32 → zSt → Prop) (I103 : Nat → Int32 → Int32 → Int32 → Int32 → zSt → Prop)
    (hv : wp_X7_explains_0 (fun x1 x2 x3 u7 => ∃ n : Nat, I11 n x1 x2 x3 u7) (fun x2 x3 u7 => ∃ n : Nat, I76 n x2 x3 u7) (fun x2 x3 x4 x5 u7 => ∃ n : Nat, I103 n x2 x3 x4 x5 u7) Q1 p1 u7)
    (hI11 : ∀ (n : Nat) (x1 : Int32) (x2 : Int32) (x3 : Int32) (u7 : zSt), I11 n x1 x2 x3 u7 → wp_X7_explains_11 (fun x1 x2 x3 u7 => ∃ k : Nat, k < n ∧ I11 k x1 x2 x3 u7) (fun x2 x3 u7 => ∃ k : Nat, k < n ∧ I76 k x2 x3 u7) (fun x2 x3 x4 x5 u7 => ∃ k : Nat, k < n ∧ I103 k x2 x3 x4 x5 u7) Q1 x1 x2 x3 u7)
    (hI76 : ∀ (n : Nat) (x2 : Int32) (x3 : Int32) (u7 : zSt), I76 n x2 x3 u7 → wp_X7_explains_76 (fun x1 x2 x3 u7 => ∃ k : Nat, k < n ∧ I11 k x1 x2 x3 u7) (fun x2 x3 u7 => ∃ k : Nat, k < n ∧ I76 k x2 x3 u7) (fun x2 x3 x4 x5 u7 => ∃ k : Nat, k < n ∧ I103 k x2 x3 x4 x5 u7) Q1 x2 x3 u7)
    (hI103 : ∀ (n : Nat) (x2 : Int32) (x3 : Int32) (x4 : Int32) (x5 : Int32) (u7 : zSt), I103 n x2 x3 x4 x5 u7 → wp_X7_explains_103 (fun x1 x2 x3 u7 => ∃ k : Nat, k < n ∧ I11 k x1 x2 x3 u7) (fun x2 x3 u7 => ∃ k : Nat, k < n ∧ I76 k x2 x3 u7) (fun x2 x3 x4 x5 u7 => ∃ k : Nat, k < n ∧ I103 k x2 x3 x4 x5 u7) Q1 x2 x3 x4 x5 u7) : zMV l yX7_explains wsX7_explains ({ frames := 1, cells := 0, slots := 0, locals := 24 } : Room) D cI cZ cJ [.ref (a 7 99), .int p1] (k7 a cI cZ u7) (fun u : zSt => k7 a cI cZ u) Q1 := by
  refine z_ofV (by decide) rfl rfl (Nat.le_of_ble_eq_true rfl) (@fun p e s m args below meth c A Q ls C Y hl hret => ?_)
  have key : ∀ n : Nat, (∀ (x1 : Int32) (x2 : Int32) (x3 : Int32) (u7 : zSt) (H : Heap) (locs : List Loc) (ls : Array Slot), I11 n x1 x2 x3 u7 → zDy D A s.heap (k7 a cI cZ u7) H locs → lv_has ls 6 [(0, .ref (a 7 99)), (1, .int x1), (2, .int x2), (3, .int x3)] → W p l e ({ frames := 1, cells := 0, slots := 0, locals := 24 } : Room) s m args below meth c H locs 0 0 Q (F0 m 11 ls [])) ∧ (∀ (x2 : Int32) (x3 : Int32) (u7 : zSt) (H : Heap) (locs : List Loc) (ls : Array Slot), I76 n x2 x3 u7 → zDy D A s.heap (k7 a cI cZ u7) H locs → lv_has ls 6 [(0, .ref (a 7 99)), (2, .int x2), (3, .int x3)] → W p l e ({ frames := 1, cells := 0, slots := 0, locals := 24 } : Room) s m args below meth c H locs 0 0 Q (F0 m 76 ls [])) ∧ (∀ (x2 : Int32) (x3 : Int32) (x4 : Int32) (x5 : Int32) (u7 : zSt) (H : Heap) (locs : List Loc) (ls : Array Slot), I103 n x2 x3 x4 x5 u7 → zDy D A s.heap (k7 a cI cZ u7) H locs → lv_has ls 6 [(0, .ref (a 7 99)), (2, .int x2), (3, .int x3), (4, .int x4), (5, .int x5)] → W p l e ({ frames := 1, cells := 0, slots := 0, locals := 24 } : Room) s m args below meth c H locs 0 0 Q (F0 m 103 ls [])) := by
    intro n
    induction n using Nat.strongRecOn with
    | _ n ih =>
      exact ⟨fun x1 x2 x3 u7 H locs ls hi Y hl => bk_X7_explains_11 C Y hl hret (fun y0 y1 y2 y3 H locs ls hi Y hl => by obtain ⟨k, hk, hi⟩ := hi; exact (ih k hk).1 y0 y1 y2 y3 H locs ls hi Y hl) (fun y0 y1 y2 H locs ls hi Y hl => by obtain ⟨k, hk, hi⟩ := hi; exact (ih k hk).2.1 y0 y1 y2 H locs ls hi Y hl) (fun y0 y1 y2 y3 y4 H locs ls hi Y hl => by obtain ⟨k, hk, hi⟩ := hi; exact (ih k hk).2.2 y0 y1 y2 y3 y4 H locs ls hi Y hl) (hI11 n x1 x2 x3 u7 hi), fun x2 x3 u7 H locs ls hi Y hl => bk_X7_explains_76 C Y hl hret (fun y0 y1 y2 y3 H locs ls hi Y hl => by obtain ⟨k, hk, hi⟩ := hi; exact (ih k hk).1 y0 y1 y2 y3 H locs ls hi Y hl) (fun y0 y1 y2 H locs ls hi Y hl => by obtain ⟨k, hk, hi⟩ := hi; exact (ih k hk).2.1 y0 y1 y2 H locs ls hi Y hl) (fun y0 y1 y2 y3 y4 H locs ls hi Y hl => by obtain ⟨k, hk, hi⟩ := hi; exact (ih k hk).2.2 y0 y1 y2 y3 y4 H locs ls hi Y hl) (hI76 n x2 x3 u7 hi), fun x2 x3 x4 x5 u7 H locs ls hi Y hl => bk_X7_explains_103 C Y hl hret (fun y0 y1 y2 y3 H locs ls hi Y hl => by obtain ⟨k, hk, hi⟩ := hi; exact (ih k hk).1 y0 y1 y2 y3 H locs ls hi Y hl) (fun y0 y1 y2 H locs ls hi Y hl => by obtain ⟨k, hk, hi⟩ := hi; exact (ih k hk).2.1 y0 y1 y2 H locs ls hi Y hl) (fun y0 y1 y2 y3 y4 H locs ls hi Y hl => by obtain ⟨k, hk, hi⟩ := hi; exact (ih k hk).2.2 y0 y1 y2 y3 y4 H locs ls hi Y hl) (hI103 n x2 x3 x4 x5 u7 hi)⟩
  exact bk_X7_explains_0 C Y hl hret (fun y0 y1 y2 y3 H locs ls hi Y hl => by obtain ⟨n, hi⟩ := hi; exact (key n).1 y0 y1 y2 y3 H locs ls hi Y hl) (fun y0 y1 y2 H locs ls hi Y hl => by obtain ⟨n, hi⟩ := hi; exact (key n).2.1 y0 y1 y2 H locs ls hi Y hl) (fun y0 y1 y2 y3 y4 H locs ls hi Y hl => by obtain ⟨n, hi⟩ := hi; exact (key n).2.2 y0 y1 y2 y3 y4 H locs ls hi Y hl) hv
def TX7_explains (Q1 : zSt → Prop) (p1 : Int32) (u7 : zSt) : Prop :=
  ∃ I11 : Nat → Int32 → Int32 → Int32 → zSt → Prop, ∃ I76 : Nat → Int32 → Int32 → zSt → Prop, ∃ I103 : Nat → Int32 → Int32 → Int32 → Int32 → zSt → Prop, (wp_X7_explains_0 (fun x1 x2 x3 u7 => ∃ n : Nat, I11 n x1 x2 x3 u7) (fun x2 x3 u7 => ∃ n : Nat, I76 n x2 x3 u7) (fun x2 x3 x4 x5 u7 => ∃ n : Nat, I103 n x2 x3 x4 x5 u7) Q1 p1 u7) ∧ (∀ (n : Nat) (x1 : Int32) (x2 : Int32) (x3 : Int32) (u7 : zSt), I11 n x1 x2 x3 u7 → wp_X7_explains_11 (fun x1 x2 x3 u7 => ∃ k : Nat, k < n ∧ I11 k x1 x2 x3 u7) (fun x2 x3 u7 => ∃ k : Nat, k < n ∧ I76 k x2 x3 u7) (fun x2 x3 x4 x5 u7 => ∃ k : Nat, k < n ∧ I103 k x2 x3 x4 x5 u7) Q1 x1 x2 x3 u7) ∧ (∀ (n : Nat) (x2 : Int32) (x3 : Int32) (u7 : zSt), I76 n x2 x3 u7 → wp_X7_explains_76 (fun x1 x2 x3 u7 => ∃ k : Nat, k < n ∧ I11 k x1 x2 x3 u7) (fun x2 x3 u7 => ∃ k : Nat, k < n ∧ I76 k x2 x3 u7) (fun x2 x3 x4 x5 u7 => ∃ k : Nat, k < n ∧ I103 k x2 x3 x4 x5 u7) Q1 x2 x3 u7) ∧ (∀ (n : Nat) (x2 : Int32) (x3 : Int32) (x4 : Int32) (x5 : Int32) (u7 : zSt), I103 n x2 x3 x4 x5 u7 → wp_X7_explains_103 (fun x1 x2 x3 u7 => ∃ k : Nat, k < n ∧ I11 k x1 x2 x3 u7) (fun x2 x3 u7 => ∃ k : Nat, k < n ∧ I76 k x2 x3 u7) (fun x2 x3 x4 x5 u7 => ∃ k : Nat, k < n ∧ I103 k x2 x3 x4 x5 u7) Q1 x2 x3 x4 x5 u7)
set_option maxHeartbeats 4000000 in
set_option maxRecDepth 100000 in
theorem c_X7_explains (l : Launch) {D : va_G} {cI cZ cJ : ClassId} {a : Nat → Nat → Nat} {Q1 : zSt → Prop} {p1 : Int32} {u7 : zSt} (hv : TX7_explains Q1 p1 u7) : zMV l yX7_explains wsX7_explains ({ frames := 1, cells := 0, slots := 0, locals := 24 } : Room) D cI cZ cJ [.ref (a 7 99), .int p1] (k7 a cI cZ u7) (fun u : zSt => k7 a cI cZ u) Q1 := by
  obtain ⟨I11, I76, I103, hv, hI11, hI76, hI103⟩ := hv
  exact k_X7_explains l I11 I76 I103 hv hI11 hI76 hI103


theorem in_X7_explain_7 : ∀ w ∈ wsX70, w ∈ wsX7_explain := by first | exact fun w h => List.mem_cons_of_mem _ (List.mem_append_right _ h) | exact fun w h => List.mem_cons_of_mem _ (List.mem_append_left _ (List.mem_append_right _ h)) | decide +kernel
theorem fl_X7_explain_93 : Cond.fieldLink RX7 93 (TX7 0).1 (TX7 0).2.1 (TX7 0).2.2.1 ∈ wsX7_explain := by decide +kernel
theorem fl_X7_explain_167 : Cond.fieldLink RX7 167 (TX7 26).1 (TX7 26).2.1 (TX7 26).2.2.1 ∈ wsX7_explain := by decide +kernel
theorem fl_X7_explain_170 : Cond.fieldLink RX7 170 (TX7 27).1 (TX7 27).2.1 (TX7 27).2.2.1 ∈ wsX7_explain := by decide +kernel
theorem fl_X7_explain_173 : Cond.fieldLink RX7 173 (TX7 28).1 (TX7 28).2.1 (TX7 28).2.2.1 ∈ wsX7_explain := by decide +kernel
section
variable {p : Program} {l : Launch} {e : Env} {s : State} {m : MethodId} {args : Array Value} {below : List Frame} {meth : Method} {c : Code} {H : Heap} {locs : List Loc} {Q : State → Prop} {D : va_G} {cI cZ cJ : ClassId} {A : Nat → Prop} {ls : Array Slot}
def wp_X7_explain_20 (Q1 : Int32 → zSt → Prop) (x1 : Int32) (x2 : Int32) (t0 : Int32) (u7 : zSt) : Prop :=
  TX7_throwsIf (fun (r_2 : Int32) (u7_1 : zSt) => (r_2 = (0 : Int32) → TX7_explains (fun (u7_3 : zSt) => (x2 = (0 : Int32) → Q1 (u7_3.1 26) u7_3) ∧ (¬ x2 = (0 : Int32) → (x2 = (1 : Int32) → Q1 (u7_3.1 27) u7_3) ∧ (¬ x2 = (1 : Int32) → Q1 (u7_3.1 28) u7_3))) x1 u7_1) ∧ (¬ r_2 = (0 : Int32) → Q1 0 u7_1)) t0 1 u7

set_option maxHeartbeats 4000000 in
set_option maxRecDepth 100000 in
theorem bk_X7_explain_20 {a : Nat → Nat → Nat} {Q1 : Int32 → zSt → Prop} {x1 : Int32} {x2 : Int32} {t0 : Int32} {u7 : zSt} (C : zCx p s m args c cX7_explain 3 RX7 wsX7_explain D cI cZ cJ A) (Y : zDy D A s.heap (k7 a cI cZ u7) H locs) (hl : lv_has ls 3 [(0, .ref (a 7 99)), (1, .int x1), (2, .int x2)]) (hret : ∀ {pc : Nat} {H : Heap} {locs : List Loc} {ls : Array Slot} {r : Int32} {u : zSt}, zDy D A s.heap ((fun u : zSt => k7 a cI cZ u) u) H locs → Q1 r u → decode cX7_explain pc = .ok (.ireturn, 1) → W p l e ({ frames := 2, cells := 0, slots := 0, locals := 49 } : Room) s m args below meth c H locs 0 0 Q (F0 m pc ls [.int r])) (hv : wp_X7_explain_20 Q1 x1 x2 t0 u7) : W p l e ({ frames := 2, cells := 0, slots := 0, locals := 49 } : Room) s m args below meth c H locs 0 0 Q (F0 m 20 ls [.int t0, .ref (a 7 99)]) := by
  unfold wp_X7_explain_20 at hv
  obtain ⟨hx, hb, hml, hown, hts, hK, hA⟩ := id C
  refine lv_iconst (v := 1) hx hb dX7_explain_20 (by decide) ?_
  refine z_callVi C Y (c_X7_throwsIf l hv) (zFr.self _ _) (cwV 2 hts gX7_explain_X7_throwsIf rfl rfl rfl (by decide +kernel) ⟨(Nat.le_of_ble_eq_true rfl), (Nat.le_of_ble_eq_true rfl)⟩) (ge7_7 ..) rfl rfl rfl hl.1 rfl (Nat.le_of_ble_eq_true rfl) dX7_explain_21 ⟨Nat.zero_le _, Nat.zero_le _⟩ (fun r_2 u7_1 H locs Y hv => ?_)
  refine lv_if_eq (tgt := 29) hx hb dX7_explain_24 (by decide) (fun hc => ?_) (fun hc => ?_)
  · have hv := hv.1 hc
    refine lv_aload_n hx hb dX7_explain_29 rfl (lv_at hl 0 rfl) ?_
    refine lv_iload_n hx hb dX7_explain_30 rfl (lv_at hl 1 rfl) ?_
    refine z_callVv C Y (c_X7_explains l hv) (zFr.self _ _) (cwV 1 hts gX7_explain_X7_explains rfl rfl rfl (by decide +kernel) ⟨(Nat.le_of_ble_eq_true rfl), (Nat.le_of_ble_eq_true rfl)⟩) (ge7_7 ..) rfl rfl rfl hl.1 rfl (Nat.le_of_ble_eq_true rfl) dX7_explain_31 ⟨Nat.zero_le _, Nat.zero_le _⟩ (fun u7_3 H locs Y hv => ?_)
    refine lv_iload_n hx hb dX7_explain_34 rfl (lv_at hl 2 rfl) ?_
    refine lv_if_ne (tgt := 45) hx hb dX7_explain_35 (by decide) (fun hc => ?_) (fun hc => ?_)
    · have hv := hv.2 hc
      refine lv_iload_n hx hb dX7_explain_45 rfl (lv_at hl 2 rfl) ?_
      refine lv_iconst (v := 1) hx hb dX7_explain_46 (by decide) ?_
      refine lv_icmp_ne (tgt := 57) hx hb dX7_explain_47 (by decide) (fun hc => ?_) (fun hc => ?_)
      · have hv := hv.2 hc
        refine lv_aload_n hx hb dX7_explain_57 rfl (lv_at hl 0 rfl) ?_
        refine z_get C Y (Cn := RX7) (T := TX7) (N := 42) in_X7_explain_7 rfl (ge7_7 ..) 28 (by decide) fl_X7_explain_173 rfl dX7_explain_58 ?_
        exact hret Y hv dX7_explain_61
      · have hv := hv.1 hc
        refine lv_aload_n hx hb dX7_explain_50 rfl (lv_at hl 0 rfl) ?_
        refine z_get C Y (Cn := RX7) (T := TX7) (N := 42) in_X7_explain_7 rfl (ge7_7 ..) 27 (by decide) fl_X7_explain_170 rfl dX7_explain_51 ?_
        refine lv_goto (tgt := 61) hx hb dX7_explain_54 (by decide) ?_
        exact hret Y hv dX7_explain_61
    · have hv := hv.1 hc
      refine lv_aload_n hx hb dX7_explain_38 rfl (lv_at hl 0 rfl) ?_
      refine z_get C Y (Cn := RX7) (T := TX7) (N := 42) in_X7_explain_7 rfl (ge7_7 ..) 26 (by decide) fl_X7_explain_167 rfl dX7_explain_39 ?_
      refine lv_goto (tgt := 61) hx hb dX7_explain_42 (by decide) ?_
      exact hret Y hv dX7_explain_61
  · have hv := hv.2 hc
    refine lv_iconst (v := 0) hx hb dX7_explain_27 (by decide) ?_
    exact hret Y hv dX7_explain_28

def wp_X7_explain_0 (Q1 : Int32 → zSt → Prop) (p1 : Int32) (p2 : Int32) (u7 : zSt) : Prop :=
  ∀ u7_1 : zSt, u7_1 = zI u7 0 0 → TX7_in (fun (r_2 : Int32) (_ : Unit) => (r_2 = (0 : Int32) → wp_X7_explain_20 Q1 p1 p2 1 u7_1) ∧ (¬ r_2 = (0 : Int32) → wp_X7_explain_20 Q1 p1 p2 0 u7_1)) p2 0 2 

set_option maxHeartbeats 4000000 in
set_option maxRecDepth 100000 in
theorem bk_X7_explain_0 {a : Nat → Nat → Nat} {Q1 : Int32 → zSt → Prop} {p1 : Int32} {p2 : Int32} {u7 : zSt} (C : zCx p s m args c cX7_explain 3 RX7 wsX7_explain D cI cZ cJ A) (Y : zDy D A s.heap (k7 a cI cZ u7) H locs) (hl : lv_has ls 3 [(0, .ref (a 7 99)), (1, .int p1), (2, .int p2)]) (hret : ∀ {pc : Nat} {H : Heap} {locs : List Loc} {ls : Array Slot} {r : Int32} {u : zSt}, zDy D A s.heap ((fun u : zSt => k7 a cI cZ u) u) H locs → Q1 r u → decode cX7_explain pc = .ok (.ireturn, 1) → W p l e ({ frames := 2, cells := 0, slots := 0, locals := 49 } : Room) s m args below meth c H locs 0 0 Q (F0 m pc ls [.int r])) (hv : wp_X7_explain_0 Q1 p1 p2 u7) : W p l e ({ frames := 2, cells := 0, slots := 0, locals := 49 } : Room) s m args below meth c H locs 0 0 Q (F0 m 0 ls []) := by
  unfold wp_X7_explain_0 at hv
  obtain ⟨hx, hb, hml, hown, hts, hK, hA⟩ := id C
  refine lv_aload_n hx hb dX7_explain_0 rfl (lv_at hl 0 rfl) ?_
  refine lv_iconst (v := 0) hx hb dX7_explain_1 (by decide) ?_
  refine z_putI C Y (Cn := RX7) (T := TX7) (N := 42) in_X7_explain_7 rfl tyX7 tyX7_ok nmX7 (ge7_7 ..) 0 (by decide) fl_X7_explain_93 rfl (by decide +kernel) (Nat.le_of_ble_eq_true rfl) (si7_7_0 ..) dX7_explain_2 (fun H locs Y => ?_)
  obtain ⟨u7_1, eu7_1, Y, hv⟩ := z_nm (kf := fun z => (k7 a cI cZ z)) Y hv
  refine lv_aload_n hx hb dX7_explain_5 rfl (lv_at hl 0 rfl) ?_
  refine lv_iload_n hx hb dX7_explain_6 rfl (lv_at hl 2 rfl) ?_
  refine lv_iconst (v := 0) hx hb dX7_explain_7 (by decide) ?_
  refine lv_iconst (v := 2) hx hb dX7_explain_8 (by decide) ?_
  refine z_callSi C Y (c_X7_in l hv) (zFr.nil _) (va_cwS 3 hts gX7_explain_X7_in rfl rfl rfl (by decide +kernel) ⟨(Nat.le_of_ble_eq_true rfl), (Nat.le_of_ble_eq_true rfl)⟩) rfl hl.1 rfl (Nat.le_of_ble_eq_true rfl) dX7_explain_9 ⟨Nat.zero_le _, Nat.zero_le _⟩ (fun r_2 _ H locs Y hv => ?_)
  refine lv_if_ne (tgt := 19) hx hb dX7_explain_12 (by decide) (fun hc => ?_) (fun hc => ?_)
  · have hv := hv.2 hc
    refine lv_iconst (v := 0) hx hb dX7_explain_19 (by decide) ?_
    exact bk_X7_explain_20 C Y (lv_sub hl [0, 1, 2] rfl) hret hv
  · have hv := hv.1 hc
    refine lv_iconst (v := 1) hx hb dX7_explain_15 (by decide) ?_
    refine lv_goto (tgt := 20) hx hb dX7_explain_16 (by decide) ?_
    exact bk_X7_explain_20 C Y (lv_sub hl [0, 1, 2] rfl) hret hv

end
abbrev TX7_explain := wp_X7_explain_0
set_option maxHeartbeats 4000000 in
set_option maxRecDepth 100000 in
theorem c_X7_explain (l : Launch) {D : va_G} {cI cZ cJ : ClassId} {a : Nat → Nat → Nat} {Q1 : Int32 → zSt → Prop} {p1 : Int32} {p2 : Int32} {u7 : zSt} (hv : wp_X7_explain_0 Q1 p1 p2 u7) : zMI l yX7_explain wsX7_explain ({ frames := 2, cells := 0, slots := 0, locals := 49 } : Room) D cI cZ cJ [.ref (a 7 99), .int p1, .int p2] (k7 a cI cZ u7) (fun u : zSt => k7 a cI cZ u) Q1 :=
  z_ofI (by decide) rfl rfl (Nat.le_of_ble_eq_true rfl) (fun C Y hl hret => bk_X7_explain_0 C Y hl hret hv)


theorem in_X7_look_7 : ∀ w ∈ wsX70, w ∈ wsX7_look := by first | exact fun w h => List.mem_cons_of_mem _ (List.mem_append_right _ h) | exact fun w h => List.mem_cons_of_mem _ (List.mem_append_left _ (List.mem_append_right _ h)) | decide +kernel
theorem fl_X7_look_28 : Cond.fieldLink RX7 28 (TX7 12).1 (TX7 12).2.1 (TX7 12).2.2.1 ∈ wsX7_look := by decide +kernel
theorem fl_X7_look_31 : Cond.fieldLink RX7 31 (TX7 13).1 (TX7 13).2.1 (TX7 13).2.2.1 ∈ wsX7_look := by decide +kernel
theorem fl_X7_look_34 : Cond.fieldLink RX7 34 (TX7 14).1 (TX7 14).2.1 (TX7 14).2.2.1 ∈ wsX7_look := by decide +kernel
theorem fl_X7_look_37 : Cond.fieldLink RX7 37 (TX7 15).1 (TX7 15).2.1 (TX7 15).2.2.1 ∈ wsX7_look := by decide +kernel
theorem fl_X7_look_40 : Cond.fieldLink RX7 40 (TX7 16).1 (TX7 16).2.1 (TX7 16).2.2.1 ∈ wsX7_look := by decide +kernel
theorem fl_X7_look_43 : Cond.fieldLink RX7 43 (TX7 18).1 (TX7 18).2.1 (TX7 18).2.2.1 ∈ wsX7_look := by decide +kernel
theorem fl_X7_look_93 : Cond.fieldLink RX7 93 (TX7 0).1 (TX7 0).2.1 (TX7 0).2.2.1 ∈ wsX7_look := by decide +kernel
theorem fl_X7_look_142 : Cond.fieldLink RX7 142 (TX7 19).1 (TX7 19).2.1 (TX7 19).2.2.1 ∈ wsX7_look := by decide +kernel
theorem fl_X7_look_155 : Cond.fieldLink RX7 155 (TX7 1).1 (TX7 1).2.1 (TX7 1).2.2.1 ∈ wsX7_look := by decide +kernel
section
variable {p : Program} {l : Launch} {e : Env} {s : State} {m : MethodId} {args : Array Value} {below : List Frame} {meth : Method} {c : Code} {H : Heap} {locs : List Loc} {Q : State → Prop} {D : va_G} {cI cZ cJ : ClassId} {A : Nat → Prop} {ls : Array Slot}
def wp_X7_look_0 (J100 : Int32 → Int32 → Int32 → zSt → Prop) (Q1 : Int32 → zSt → Prop) (p1 : Int32) (p2 : Int32) (u7 : zSt) : Prop :=
  ∀ u7_1 : zSt, u7_1 = zI u7 0 0 → TX7_noLot (fun (r_3 : Int32) (u7_2 : zSt) => TX7_throwsIf (fun (r_5 : Int32) (u7_4 : zSt) => (r_5 = (0 : Int32) → ∀ t_6 : Int32, t_6 = p2 → (t_6 = 0 → vp_in p1 12 ∧ (Q1 (u7_4.2 12 p1.toNatClampNeg) u7_4)) ∧ (¬ t_6 = 0 → (t_6 = 1 → vp_in p1 12 ∧ (Q1 (u7_4.2 13 p1.toNatClampNeg) u7_4)) ∧ (¬ t_6 = 1 → (t_6 = 2 → vp_in p1 12 ∧ (Q1 (u7_4.2 14 p1.toNatClampNeg) u7_4)) ∧ (¬ t_6 = 2 → (t_6 = 3 → vp_in p1 12 ∧ (Q1 (u7_4.2 15 p1.toNatClampNeg) u7_4)) ∧ (¬ t_6 = 3 → (t_6 = 4 → vp_in p1 12 ∧ (Q1 (u7_4.2 16 p1.toNatClampNeg) u7_4)) ∧ (¬ t_6 = 4 → (t_6 = 5 → ∀ x3_7 : Int32, x3_7 = 0 → ∀ x4_8 : Int32, x4_8 = 0 → J100 p1 x3_7 x4_8 u7_4) ∧ (¬ t_6 = 5 → ∀ u7_9 : zSt, u7_9 = zI u7_4 0 2 → Q1 0 u7_9))))))) ∧ (¬ r_5 = (0 : Int32) → Q1 0 u7_4)) r_3 1 u7_2) p1 u7_1

set_option maxHeartbeats 4000000 in
set_option maxRecDepth 100000 in
theorem bk_X7_look_0 {a : Nat → Nat → Nat} {J100 : Int32 → Int32 → Int32 → zSt → Prop} {Q1 : Int32 → zSt → Prop} {p1 : Int32} {p2 : Int32} {u7 : zSt} (C : zCx p s m args c cX7_look 5 RX7 wsX7_look D cI cZ cJ A) (Y : zDy D A s.heap (k7 a cI cZ u7) H locs) (hl : lv_has ls 5 [(0, .ref (a 7 99)), (1, .int p1), (2, .int p2)]) (hret : ∀ {pc : Nat} {H : Heap} {locs : List Loc} {ls : Array Slot} {r : Int32} {u : zSt}, zDy D A s.heap ((fun u : zSt => k7 a cI cZ u) u) H locs → Q1 r u → decode cX7_look pc = .ok (.ireturn, 1) → W p l e ({ frames := 2, cells := 0, slots := 0, locals := 43 } : Room) s m args below meth c H locs 0 0 Q (F0 m pc ls [.int r])) (hJ100 : ∀ (x1 : Int32) (x3 : Int32) (x4 : Int32) (u7 : zSt) (H : Heap) (locs : List Loc) (ls : Array Slot), J100 x1 x3 x4 u7 → zDy D A s.heap (k7 a cI cZ u7) H locs → lv_has ls 5 [(0, .ref (a 7 99)), (1, .int x1), (3, .int x3), (4, .int x4)] → W p l e ({ frames := 2, cells := 0, slots := 0, locals := 43 } : Room) s m args below meth c H locs 0 0 Q (F0 m 100 ls [])) (hv : wp_X7_look_0 J100 Q1 p1 p2 u7) : W p l e ({ frames := 2, cells := 0, slots := 0, locals := 43 } : Room) s m args below meth c H locs 0 0 Q (F0 m 0 ls []) := by
  unfold wp_X7_look_0 at hv
  obtain ⟨hx, hb, hml, hown, hts, hK, hA⟩ := id C
  refine lv_aload_n hx hb dX7_look_0 rfl (lv_at hl 0 rfl) ?_
  refine lv_iconst (v := 0) hx hb dX7_look_1 (by decide) ?_
  refine z_putI C Y (Cn := RX7) (T := TX7) (N := 42) in_X7_look_7 rfl tyX7 tyX7_ok nmX7 (ge7_7 ..) 0 (by decide) fl_X7_look_93 rfl (by decide +kernel) (Nat.le_of_ble_eq_true rfl) (si7_7_0 ..) dX7_look_2 (fun H locs Y => ?_)
  obtain ⟨u7_1, eu7_1, Y, hv⟩ := z_nm (kf := fun z => (k7 a cI cZ z)) Y hv
  refine lv_aload_n hx hb dX7_look_5 rfl (lv_at hl 0 rfl) ?_
  refine lv_aload_n hx hb dX7_look_6 rfl (lv_at hl 0 rfl) ?_
  refine lv_iload_n hx hb dX7_look_7 rfl (lv_at hl 1 rfl) ?_
  refine z_callVi C Y (c_X7_noLot l hv) (zFr.self _ _) (cwV 1 hts gX7_look_X7_noLot rfl rfl rfl (by decide +kernel) ⟨(Nat.le_of_ble_eq_true rfl), (Nat.le_of_ble_eq_true rfl)⟩) (ge7_7 ..) rfl rfl rfl hl.1 rfl (Nat.le_of_ble_eq_true rfl) dX7_look_8 ⟨Nat.zero_le _, Nat.zero_le _⟩ (fun r_3 u7_2 H locs Y hv => ?_)
  refine lv_iconst (v := 1) hx hb dX7_look_11 (by decide) ?_
  refine z_callVi C Y (c_X7_throwsIf l hv) (zFr.self _ _) (cwV 2 hts gX7_look_X7_throwsIf rfl rfl rfl (by decide +kernel) ⟨(Nat.le_of_ble_eq_true rfl), (Nat.le_of_ble_eq_true rfl)⟩) (ge7_7 ..) rfl rfl rfl hl.1 rfl (Nat.le_of_ble_eq_true rfl) dX7_look_12 ⟨Nat.zero_le _, Nat.zero_le _⟩ (fun r_5 u7_4 H locs Y hv => ?_)
  refine lv_if_eq (tgt := 20) hx hb dX7_look_15 (by decide) (fun hc => ?_) (fun hc => ?_)
  · have hv := hv.1 hc
    refine lv_iload_n hx hb dX7_look_20 rfl (lv_at hl 2 rfl) ?_
    refine z_topi hv (fun t_6 et_6 hv => ?_)
    by_cases h0_21 : t_6 = 0
    · have hv := hv.1 h0_21
      rw [h0_21]
      refine lv_tableIn (off := 39) (tgt := 60) hx hb dX7_look_21 (by decide) (by decide) (by decide) (by decide) ?_
      refine lv_aload_n hx hb dX7_look_60 rfl (lv_at hl 0 rfl) ?_
      refine z_get C Y (Cn := RX7) (T := TX7) (N := 42) in_X7_look_7 rfl (ge7_7 ..) 12 (by decide) fl_X7_look_28 rfl dX7_look_61 ?_
      refine lv_iload_n hx hb dX7_look_64 rfl (lv_at hl 1 rfl) ?_
      obtain ⟨hi, hv⟩ := hv
      refine z_ldI C Y (pa7_7_12 ..) hi dX7_look_65 ?_
      exact hret Y hv dX7_look_66
    replace hv := hv.2 h0_21
    by_cases h1_21 : t_6 = 1
    · have hv := hv.1 h1_21
      rw [h1_21]
      refine lv_tableIn (off := 46) (tgt := 67) hx hb dX7_look_21 (by decide) (by decide) (by decide) (by decide) ?_
      refine lv_aload_n hx hb dX7_look_67 rfl (lv_at hl 0 rfl) ?_
      refine z_get C Y (Cn := RX7) (T := TX7) (N := 42) in_X7_look_7 rfl (ge7_7 ..) 13 (by decide) fl_X7_look_31 rfl dX7_look_68 ?_
      refine lv_iload_n hx hb dX7_look_71 rfl (lv_at hl 1 rfl) ?_
      obtain ⟨hi, hv⟩ := hv
      refine z_ldI C Y (pa7_7_13 ..) hi dX7_look_72 ?_
      exact hret Y hv dX7_look_73
    replace hv := hv.2 h1_21
    by_cases h2_21 : t_6 = 2
    · have hv := hv.1 h2_21
      rw [h2_21]
      refine lv_tableIn (off := 53) (tgt := 74) hx hb dX7_look_21 (by decide) (by decide) (by decide) (by decide) ?_
      refine lv_aload_n hx hb dX7_look_74 rfl (lv_at hl 0 rfl) ?_
      refine z_get C Y (Cn := RX7) (T := TX7) (N := 42) in_X7_look_7 rfl (ge7_7 ..) 14 (by decide) fl_X7_look_34 rfl dX7_look_75 ?_
      refine lv_iload_n hx hb dX7_look_78 rfl (lv_at hl 1 rfl) ?_
      obtain ⟨hi, hv⟩ := hv
      refine z_ldI C Y (pa7_7_14 ..) hi dX7_look_79 ?_
      exact hret Y hv dX7_look_80
    replace hv := hv.2 h2_21
    by_cases h3_21 : t_6 = 3
    · have hv := hv.1 h3_21
      rw [h3_21]
      refine lv_tableIn (off := 60) (tgt := 81) hx hb dX7_look_21 (by decide) (by decide) (by decide) (by decide) ?_
      refine lv_aload_n hx hb dX7_look_81 rfl (lv_at hl 0 rfl) ?_
      refine z_get C Y (Cn := RX7) (T := TX7) (N := 42) in_X7_look_7 rfl (ge7_7 ..) 15 (by decide) fl_X7_look_37 rfl dX7_look_82 ?_
      refine lv_iload_n hx hb dX7_look_85 rfl (lv_at hl 1 rfl) ?_
      obtain ⟨hi, hv⟩ := hv
      refine z_ldI C Y (pa7_7_15 ..) hi dX7_look_86 ?_
      exact hret Y hv dX7_look_87
    replace hv := hv.2 h3_21
    by_cases h4_21 : t_6 = 4
    · have hv := hv.1 h4_21
      rw [h4_21]
      refine lv_tableIn (off := 67) (tgt := 88) hx hb dX7_look_21 (by decide) (by decide) (by decide) (by decide) ?_
      refine lv_aload_n hx hb dX7_look_88 rfl (lv_at hl 0 rfl) ?_
      refine z_get C Y (Cn := RX7) (T := TX7) (N := 42) in_X7_look_7 rfl (ge7_7 ..) 16 (by decide) fl_X7_look_40 rfl dX7_look_89 ?_
      refine lv_iload_n hx hb dX7_look_92 rfl (lv_at hl 1 rfl) ?_
      obtain ⟨hi, hv⟩ := hv
      refine z_ldI C Y (pa7_7_16 ..) hi dX7_look_93 ?_
      exact hret Y hv dX7_look_94
    replace hv := hv.2 h4_21
    by_cases h5_21 : t_6 = 5
    · have hv := hv.1 h5_21
      rw [h5_21]
      refine lv_tableIn (off := 74) (tgt := 95) hx hb dX7_look_21 (by decide) (by decide) (by decide) (by decide) ?_
      refine lv_iconst (v := 0) hx hb dX7_look_95 (by decide) ?_
      refine z_topi hv (fun x3_7 ex3_7 hv => ?_)
      refine lv_istore_n (lv' := [(3, .int x3_7), (0, .ref (a 7 99)), (1, .int p1), (2, .int p2)]) hx hb dX7_look_96 rfl hl (by decide) rfl (fun ls hl => ?_)
      refine lv_iconst (v := 0) hx hb dX7_look_97 (by decide) ?_
      refine z_topi hv (fun x4_8 ex4_8 hv => ?_)
      refine lv_istore (lv' := [(4, .int x4_8), (3, .int x3_7), (0, .ref (a 7 99)), (1, .int p1), (2, .int p2)]) hx hb dX7_look_98 hl (by decide) rfl (fun ls hl => ?_)
      exact hJ100 _ _ _ _ _ _ _ hv Y (lv_sub hl [2, 3, 1, 0] rfl)
    replace hv := hv.2 h5_21
    refine lv_tableOut (tgt := 154) hx hb dX7_look_21 (by have q0 := lv_neT h0_21 (a := 0) (by decide); have q1 := lv_neT h1_21 (a := 1) (by decide); have q2 := lv_neT h2_21 (a := 2) (by decide); have q3 := lv_neT h3_21 (a := 3) (by decide); have q4 := lv_neT h4_21 (a := 4) (by decide); have q5 := lv_neT h5_21 (a := 5) (by decide); omega) (by decide) ?_
    refine lv_aload_n hx hb dX7_look_154 rfl (lv_at hl 0 rfl) ?_
    refine lv_iconst (v := 2) hx hb dX7_look_155 (by decide) ?_
    refine z_putI C Y (Cn := RX7) (T := TX7) (N := 42) in_X7_look_7 rfl tyX7 tyX7_ok nmX7 (ge7_7 ..) 0 (by decide) fl_X7_look_93 rfl (by decide +kernel) (Nat.le_of_ble_eq_true rfl) (si7_7_0 ..) dX7_look_156 (fun H locs Y => ?_)
    obtain ⟨u7_9, eu7_9, Y, hv⟩ := z_nm (kf := fun z => (k7 a cI cZ z)) Y hv
    refine lv_iconst (v := 0) hx hb dX7_look_159 (by decide) ?_
    exact hret Y hv dX7_look_160
  · have hv := hv.2 hc
    refine lv_iconst (v := 0) hx hb dX7_look_18 (by decide) ?_
    exact hret Y hv dX7_look_19

def wp_X7_look_144 (J100 : Int32 → Int32 → Int32 → zSt → Prop) (Q1 : Int32 → zSt → Prop) (x1 : Int32) (x4 : Int32) (t0 : Int32) (t1 : Int32) (u7 : zSt) : Prop :=
  ∀ x3_1 : Int32, x3_1 = (t1 + t0) → ∀ x4_2 : Int32, x4_2 = x4 + 1 → J100 x1 x3_1 x4_2 u7

set_option maxHeartbeats 4000000 in
set_option maxRecDepth 100000 in
theorem bk_X7_look_144 {a : Nat → Nat → Nat} {J100 : Int32 → Int32 → Int32 → zSt → Prop} {Q1 : Int32 → zSt → Prop} {x1 : Int32} {x4 : Int32} {t0 : Int32} {t1 : Int32} {u7 : zSt} (C : zCx p s m args c cX7_look 5 RX7 wsX7_look D cI cZ cJ A) (Y : zDy D A s.heap (k7 a cI cZ u7) H locs) (hl : lv_has ls 5 [(0, .ref (a 7 99)), (1, .int x1), (4, .int x4)]) (hret : ∀ {pc : Nat} {H : Heap} {locs : List Loc} {ls : Array Slot} {r : Int32} {u : zSt}, zDy D A s.heap ((fun u : zSt => k7 a cI cZ u) u) H locs → Q1 r u → decode cX7_look pc = .ok (.ireturn, 1) → W p l e ({ frames := 2, cells := 0, slots := 0, locals := 43 } : Room) s m args below meth c H locs 0 0 Q (F0 m pc ls [.int r])) (hJ100 : ∀ (x1 : Int32) (x3 : Int32) (x4 : Int32) (u7 : zSt) (H : Heap) (locs : List Loc) (ls : Array Slot), J100 x1 x3 x4 u7 → zDy D A s.heap (k7 a cI cZ u7) H locs → lv_has ls 5 [(0, .ref (a 7 99)), (1, .int x1), (3, .int x3), (4, .int x4)] → W p l e ({ frames := 2, cells := 0, slots := 0, locals := 43 } : Room) s m args below meth c H locs 0 0 Q (F0 m 100 ls [])) (hv : wp_X7_look_144 J100 Q1 x1 x4 t0 t1 u7) : W p l e ({ frames := 2, cells := 0, slots := 0, locals := 43 } : Room) s m args below meth c H locs 0 0 Q (F0 m 144 ls [.int t0, .int t1]) := by
  unfold wp_X7_look_144 at hv
  obtain ⟨hx, hb, hml, hown, hts, hK, hA⟩ := id C
  refine lv_iadd hx hb dX7_look_144 ?_
  refine z_topi hv (fun x3_1 ex3_1 hv => ?_)
  refine lv_istore_n (lv' := [(3, .int x3_1), (0, .ref (a 7 99)), (1, .int x1), (4, .int x4)]) hx hb dX7_look_145 rfl hl (by decide) rfl (fun ls hl => ?_)
  obtain ⟨x4_2, ex4_2, hv⟩ := z_nv hv
  refine lv_iinc (v := x4_2) (lv' := [(4, .int x4_2), (3, .int x3_1), (0, .ref (a 7 99)), (1, .int x1)]) hx hb dX7_look_146 hl (k := 3) rfl (by rw [ex4_2]; rfl) (by decide) rfl (fun ls hl => ?_)
  refine lv_goto (tgt := 100) hx hb dX7_look_149 (by decide) ?_
  exact hJ100 _ _ _ _ _ _ _ hv Y (lv_sub hl [2, 3, 1, 0] rfl)

def wp_X7_look_143 (J100 : Int32 → Int32 → Int32 → zSt → Prop) (Q1 : Int32 → zSt → Prop) (x1 : Int32) (x4 : Int32) (t0 : Int32) (u7 : zSt) : Prop :=
  wp_X7_look_144 J100 Q1 x1 x4 0 t0 u7

set_option maxHeartbeats 4000000 in
set_option maxRecDepth 100000 in
theorem bk_X7_look_143 {a : Nat → Nat → Nat} {J100 : Int32 → Int32 → Int32 → zSt → Prop} {Q1 : Int32 → zSt → Prop} {x1 : Int32} {x4 : Int32} {t0 : Int32} {u7 : zSt} (C : zCx p s m args c cX7_look 5 RX7 wsX7_look D cI cZ cJ A) (Y : zDy D A s.heap (k7 a cI cZ u7) H locs) (hl : lv_has ls 5 [(0, .ref (a 7 99)), (1, .int x1), (4, .int x4)]) (hret : ∀ {pc : Nat} {H : Heap} {locs : List Loc} {ls : Array Slot} {r : Int32} {u : zSt}, zDy D A s.heap ((fun u : zSt => k7 a cI cZ u) u) H locs → Q1 r u → decode cX7_look pc = .ok (.ireturn, 1) → W p l e ({ frames := 2, cells := 0, slots := 0, locals := 43 } : Room) s m args below meth c H locs 0 0 Q (F0 m pc ls [.int r])) (hJ100 : ∀ (x1 : Int32) (x3 : Int32) (x4 : Int32) (u7 : zSt) (H : Heap) (locs : List Loc) (ls : Array Slot), J100 x1 x3 x4 u7 → zDy D A s.heap (k7 a cI cZ u7) H locs → lv_has ls 5 [(0, .ref (a 7 99)), (1, .int x1), (3, .int x3), (4, .int x4)] → W p l e ({ frames := 2, cells := 0, slots := 0, locals := 43 } : Room) s m args below meth c H locs 0 0 Q (F0 m 100 ls [])) (hv : wp_X7_look_143 J100 Q1 x1 x4 t0 u7) : W p l e ({ frames := 2, cells := 0, slots := 0, locals := 43 } : Room) s m args below meth c H locs 0 0 Q (F0 m 143 ls [.int t0]) := by
  unfold wp_X7_look_143 at hv
  obtain ⟨hx, hb, hml, hown, hts, hK, hA⟩ := id C
  refine lv_iconst (v := 0) hx hb dX7_look_143 (by decide) ?_
  exact bk_X7_look_144 C Y (lv_sub hl [0, 1, 2] rfl) hret hJ100 hv

def wp_X7_look_100 (J100 : Int32 → Int32 → Int32 → zSt → Prop) (Q1 : Int32 → zSt → Prop) (x1 : Int32) (x3 : Int32) (x4 : Int32) (u7 : zSt) : Prop :=
  ((u7.1 19) ≤ x4 → Q1 x3 u7) ∧ (¬ (u7.1 19) ≤ x4 → vp_in x4 60 ∧ ((((((u7.2 18 x4.toNatClampNeg) : Int32) >>> ((x1 : Int32) &&& 31)) &&& 1) = (1 : Int32) → TX7_did (fun (r_2 : Int32) (u7_1 : zSt) => (r_2 = (0 : Int32) → wp_X7_look_143 J100 Q1 x1 x4 x3 u7_1) ∧ (¬ r_2 = (0 : Int32) → wp_X7_look_144 J100 Q1 x1 x4 1 x3 u7_1)) x4 1 (u7.1 1) u7) ∧ (¬ ((((u7.2 18 x4.toNatClampNeg) : Int32) >>> ((x1 : Int32) &&& 31)) &&& 1) = (1 : Int32) → wp_X7_look_143 J100 Q1 x1 x4 x3 u7)))

set_option maxHeartbeats 4000000 in
set_option maxRecDepth 100000 in
theorem bk_X7_look_100 {a : Nat → Nat → Nat} {J100 : Int32 → Int32 → Int32 → zSt → Prop} {Q1 : Int32 → zSt → Prop} {x1 : Int32} {x3 : Int32} {x4 : Int32} {u7 : zSt} (C : zCx p s m args c cX7_look 5 RX7 wsX7_look D cI cZ cJ A) (Y : zDy D A s.heap (k7 a cI cZ u7) H locs) (hl : lv_has ls 5 [(0, .ref (a 7 99)), (1, .int x1), (3, .int x3), (4, .int x4)]) (hret : ∀ {pc : Nat} {H : Heap} {locs : List Loc} {ls : Array Slot} {r : Int32} {u : zSt}, zDy D A s.heap ((fun u : zSt => k7 a cI cZ u) u) H locs → Q1 r u → decode cX7_look pc = .ok (.ireturn, 1) → W p l e ({ frames := 2, cells := 0, slots := 0, locals := 43 } : Room) s m args below meth c H locs 0 0 Q (F0 m pc ls [.int r])) (hJ100 : ∀ (x1 : Int32) (x3 : Int32) (x4 : Int32) (u7 : zSt) (H : Heap) (locs : List Loc) (ls : Array Slot), J100 x1 x3 x4 u7 → zDy D A s.heap (k7 a cI cZ u7) H locs → lv_has ls 5 [(0, .ref (a 7 99)), (1, .int x1), (3, .int x3), (4, .int x4)] → W p l e ({ frames := 2, cells := 0, slots := 0, locals := 43 } : Room) s m args below meth c H locs 0 0 Q (F0 m 100 ls [])) (hv : wp_X7_look_100 J100 Q1 x1 x3 x4 u7) : W p l e ({ frames := 2, cells := 0, slots := 0, locals := 43 } : Room) s m args below meth c H locs 0 0 Q (F0 m 100 ls []) := by
  unfold wp_X7_look_100 at hv
  obtain ⟨hx, hb, hml, hown, hts, hK, hA⟩ := id C
  refine lv_iload hx hb dX7_look_100 (lv_at hl 3 rfl) ?_
  refine lv_aload_n hx hb dX7_look_102 rfl (lv_at hl 0 rfl) ?_
  refine z_get C Y (Cn := RX7) (T := TX7) (N := 42) in_X7_look_7 rfl (ge7_7 ..) 19 (by decide) fl_X7_look_142 rfl dX7_look_103 ?_
  refine lv_icmp_ge (tgt := 152) hx hb dX7_look_106 (by decide) (fun hc => ?_) (fun hc => ?_)
  · have hv := hv.1 hc
    refine lv_iload_n hx hb dX7_look_152 rfl (lv_at hl 2 rfl) ?_
    exact hret Y hv dX7_look_153
  · have hv := hv.2 hc
    refine lv_iload_n hx hb dX7_look_109 rfl (lv_at hl 2 rfl) ?_
    refine lv_aload_n hx hb dX7_look_110 rfl (lv_at hl 0 rfl) ?_
    refine z_get C Y (Cn := RX7) (T := TX7) (N := 42) in_X7_look_7 rfl (ge7_7 ..) 18 (by decide) fl_X7_look_43 rfl dX7_look_111 ?_
    refine lv_iload hx hb dX7_look_114 (lv_at hl 3 rfl) ?_
    obtain ⟨hi, hv⟩ := hv
    refine z_ldI C Y (pa7_7_18 ..) hi dX7_look_116 ?_
    refine lv_iload_n hx hb dX7_look_117 rfl (lv_at hl 1 rfl) ?_
    refine lv_ishr hx hb dX7_look_118 ?_
    refine lv_iconst (v := 1) hx hb dX7_look_119 (by decide) ?_
    refine lv_iand hx hb dX7_look_120 ?_
    refine lv_iconst (v := 1) hx hb dX7_look_121 (by decide) ?_
    refine lv_icmp_ne (tgt := 143) hx hb dX7_look_122 (by decide) (fun hc => ?_) (fun hc => ?_)
    · have hv := hv.2 hc
      exact bk_X7_look_143 C Y (lv_sub hl [0, 1, 3] rfl) hret hJ100 hv
    · have hv := hv.1 hc
      refine lv_aload_n hx hb dX7_look_125 rfl (lv_at hl 0 rfl) ?_
      refine lv_iload hx hb dX7_look_126 (lv_at hl 3 rfl) ?_
      refine lv_iconst (v := 1) hx hb dX7_look_128 (by decide) ?_
      refine lv_aload_n hx hb dX7_look_129 rfl (lv_at hl 0 rfl) ?_
      refine z_get C Y (Cn := RX7) (T := TX7) (N := 42) in_X7_look_7 rfl (ge7_7 ..) 1 (by decide) fl_X7_look_155 rfl dX7_look_130 ?_
      refine z_callVi C Y (c_X7_did l hv) (zFr.self _ _) (cwV 3 hts gX7_look_X7_did rfl rfl rfl (by decide +kernel) ⟨(Nat.le_of_ble_eq_true rfl), (Nat.le_of_ble_eq_true rfl)⟩) (ge7_7 ..) rfl rfl rfl hl.1 rfl (Nat.le_of_ble_eq_true rfl) dX7_look_133 ⟨Nat.zero_le _, Nat.zero_le _⟩ (fun r_2 u7_1 H locs Y hv => ?_)
      refine lv_if_eq (tgt := 143) hx hb dX7_look_136 (by decide) (fun hc => ?_) (fun hc => ?_)
      · have hv := hv.1 hc
        exact bk_X7_look_143 C Y (lv_sub hl [0, 1, 3] rfl) hret hJ100 hv
      · have hv := hv.2 hc
        refine lv_iconst (v := 1) hx hb dX7_look_139 (by decide) ?_
        refine lv_goto (tgt := 144) hx hb dX7_look_140 (by decide) ?_
        exact bk_X7_look_144 C Y (lv_sub hl [0, 1, 3] rfl) hret hJ100 hv

end
set_option maxHeartbeats 4000000 in
set_option maxRecDepth 100000 in
theorem k_X7_look (l : Launch) {D : va_G} {cI cZ cJ : ClassId} {a : Nat → Nat → Nat} {Q1 : Int32 → zSt → Prop} {p1 : Int32} {p2 : Int32} {u7 : zSt} (I100 : Nat → Int32 → Int32 → Int32 → zSt → Prop)
    (hv : wp_X7_look_0 (fun x1 x3 x4 u7 => ∃ n : Nat, I100 n x1 x3 x4 u7) Q1 p1 p2 u7)
    (hI100 : ∀ (n : Nat) (x1 : Int32) (x3 : Int32) (x4 : Int32) (u7 : zSt), I100 n x1 x3 x4 u7 → wp_X7_look_100 (fun x1 x3 x4 u7 => ∃ k : Nat, k < n ∧ I100 k x1 x3 x4 u7) Q1 x1 x3 x4 u7) : zMI l yX7_look wsX7_look ({ frames := 2, cells := 0, slots := 0, locals := 43 } : Room) D cI cZ cJ [.ref (a 7 99), .int p1, .int p2] (k7 a cI cZ u7) (fun u : zSt => k7 a cI cZ u) Q1 := by
  refine z_ofI (by decide) rfl rfl (Nat.le_of_ble_eq_true rfl) (@fun p e s m args below meth c A Q ls C Y hl hret => ?_)
  have key : ∀ n : Nat, (∀ (x1 : Int32) (x3 : Int32) (x4 : Int32) (u7 : zSt) (H : Heap) (locs : List Loc) (ls : Array Slot), I100 n x1 x3 x4 u7 → zDy D A s.heap (k7 a cI cZ u7) H locs → lv_has ls 5 [(0, .ref (a 7 99)), (1, .int x1), (3, .int x3), (4, .int x4)] → W p l e ({ frames := 2, cells := 0, slots := 0, locals := 43 } : Room) s m args below meth c H locs 0 0 Q (F0 m 100 ls [])) := by
    intro n
    induction n using Nat.strongRecOn with
    | _ n ih =>
      exact fun x1 x3 x4 u7 H locs ls hi Y hl => bk_X7_look_100 C Y hl hret (fun y0 y1 y2 y3 H locs ls hi Y hl => by obtain ⟨k, hk, hi⟩ := hi; exact (ih k hk) y0 y1 y2 y3 H locs ls hi Y hl) (hI100 n x1 x3 x4 u7 hi)
  exact bk_X7_look_0 C Y hl hret (fun y0 y1 y2 y3 H locs ls hi Y hl => by obtain ⟨n, hi⟩ := hi; exact (key n) y0 y1 y2 y3 H locs ls hi Y hl) hv
def TX7_look (Q1 : Int32 → zSt → Prop) (p1 : Int32) (p2 : Int32) (u7 : zSt) : Prop :=
  ∃ I100 : Nat → Int32 → Int32 → Int32 → zSt → Prop, (wp_X7_look_0 (fun x1 x3 x4 u7 => ∃ n : Nat, I100 n x1 x3 x4 u7) Q1 p1 p2 u7) ∧ (∀ (n : Nat) (x1 : Int32) (x3 : Int32) (x4 : Int32) (u7 : zSt), I100 n x1 x3 x4 u7 → wp_X7_look_100 (fun x1 x3 x4 u7 => ∃ k : Nat, k < n ∧ I100 k x1 x3 x4 u7) Q1 x1 x3 x4 u7)
set_option maxHeartbeats 4000000 in
set_option maxRecDepth 100000 in
theorem c_X7_look (l : Launch) {D : va_G} {cI cZ cJ : ClassId} {a : Nat → Nat → Nat} {Q1 : Int32 → zSt → Prop} {p1 : Int32} {p2 : Int32} {u7 : zSt} (hv : TX7_look Q1 p1 p2 u7) : zMI l yX7_look wsX7_look ({ frames := 2, cells := 0, slots := 0, locals := 43 } : Room) D cI cZ cJ [.ref (a 7 99), .int p1, .int p2] (k7 a cI cZ u7) (fun u : zSt => k7 a cI cZ u) Q1 := by
  obtain ⟨I100, hv, hI100⟩ := hv
  exact k_X7_look l I100 hv hI100


