section
variable {p : Program} {l : Launch} {e : Env} {s : State} {m : MethodId} {args : Array Value} {below : List Frame} {meth : Method} {c : Code} {H : Heap} {locs : List Loc} {Q : State → Prop} {D : va_G} {cI cZ cJ : ClassId} {A : Nat → Prop} {ls : Array Slot}
def wp_L_law_788 (L : Nat) (xs : Nat → Int32) (J23 : Int32 → Nat → Nat → zSt → zSt → zSt → zSt → zSt → zSt → zSt → (Nat → Int64) → Prop) (x4 : Int32) (x5 : Int32) (t0 : Int32) (t1 : Int32) (cs sl : Nat) (u0 : zSt) (u1 : zSt) (u2 : zSt) (u3 : zSt) (u4 : zSt) (u5 : zSt) (u7 : zSt) (u8 : (Nat → Int64)) : Prop :=
  (cs + 1 ≤ 601024 ∧ sl + 6 ≤ 7293034) ∧ (TX7_trial (fun (r_2 : Int32) (u7_1 : zSt) => ∀ x6_3 : Int32, x6_3 = r_2 → TX7_thrown (fun (r_5 : Int32) (u7_4 : zSt) => (r_5 = x5 → (x5 = (0 : Int32) → ((lg_cmp (u8 (0 : Int32).toNatClampNeg) ((x6_3 : Int32).toInt64)) = (0 : Int32) → ∀ x4_7 : Int32, x4_7 = x4 + 5 → J23 x4_7 cs sl u0 u1 u2 u3 u4 u5 u7_4 u8) ∧ (¬ (lg_cmp (u8 (0 : Int32).toNatClampNeg) ((x6_3 : Int32).toInt64)) = (0 : Int32) → False)) ∧ (¬ x5 = (0 : Int32) → ∀ x4_6 : Int32, x4_6 = x4 + 5 → J23 x4_6 cs sl u0 u1 u2 u3 u4 u5 u7_4 u8)) ∧ (¬ r_5 = x5 → False))  u7_1) t1 t0 u7)
set_option maxHeartbeats 4000000 in
set_option maxRecDepth 100000 in
theorem bk_L_law_788 {a : Nat → Nat → Nat} {b L : Nat} {xs : Nat → Int32} {J23 : Int32 → Nat → Nat → zSt → zSt → zSt → zSt → zSt → zSt → zSt → (Nat → Int64) → Prop} {x4 : Int32} {x5 : Int32} {t0 : Int32} {t1 : Int32} {cs sl : Nat} {u0 : zSt} {u1 : zSt} {u2 : zSt} {u3 : zSt} {u4 : zSt} {u5 : zSt} {u7 : zSt} {u8 : (Nat → Int64)} (C : zCx p s m args c cL_law 7 RL wsL_law D cI cZ cJ A) (Y : zDy D A s.heap (kl a cI cZ cJ (u0, u1, u2, u3, u4, u5, u7, u8)) H locs) (hl : lv_has ls 7 [(0, .ref b), (1, .ref (a 6 99)), (2, .ref (a 7 99)), (3, .ref (a 8 0)), (4, .int x4), (5, .int x5)]) (hlt : l.stackTraces = false) (hX : zXe A s s.heap) (hXs : va_X b L xs s s.heap) (hbl : b < s.heap.size) (hbA : ¬ A b) (hret : ∀ {pc : Nat} {H : Heap} {locs : List Loc} {ls : Array Slot} {cs sl : Nat} {u0 : zSt} {u1 : zSt} {u2 : zSt} {u3 : zSt} {u4 : zSt} {u5 : zSt} {u7 : zSt} {u8 : (Nat → Int64)}, zDy D A s.heap (kl a cI cZ cJ (u0, u1, u2, u3, u4, u5, u7, u8)) H locs → (cs ≤ 601024 ∧ sl ≤ 7293034) → decode cL_law pc = .ok (.ireturn, 1) → W p l e room_1 s m args below meth c H locs cs sl Q (F0 m pc ls [.int 1])) (hJ23 : ∀ (x4 : Int32) (cs sl : Nat) (u0 : zSt) (u1 : zSt) (u2 : zSt) (u3 : zSt) (u4 : zSt) (u5 : zSt) (u7 : zSt) (u8 : (Nat → Int64)) (H : Heap) (locs : List Loc) (ls : Array Slot), J23 x4 cs sl u0 u1 u2 u3 u4 u5 u7 u8 → zDy D A s.heap (kl a cI cZ cJ (u0, u1, u2, u3, u4, u5, u7, u8)) H locs → lv_has ls 7 [(0, .ref b), (1, .ref (a 6 99)), (2, .ref (a 7 99)), (3, .ref (a 8 0)), (4, .int x4)] → W p l e room_1 s m args below meth c H locs cs sl Q (F0 m 23 ls [])) (hv : wp_L_law_788 L xs J23 x4 x5 t0 t1 cs sl u0 u1 u2 u3 u4 u5 u7 u8) : W p l e room_1 s m args below meth c H locs cs sl Q (F0 m 788 ls [.int t0, .int t1, .ref (a 7 99)]) := by
  unfold wp_L_law_788 at hv
  obtain ⟨hcs, hv⟩ := hv
  obtain ⟨hx, hb, hml, hown, hts, hK, hA⟩ := id C
  refine z_callVi C Y (c_X7_trial l hv) (frl_7 ..) (cwV 2 hts gL_law_X7_trial rfl rfl rfl (by decide +kernel) ⟨Nat.le_of_ble_eq_true rfl, Nat.le_of_ble_eq_true rfl⟩) (ge7_7 ..) rfl rfl rfl hl.1 rfl (Nat.le_of_ble_eq_true rfl) dL_law_788 ⟨by show _ ≤ 601024; omega, by show _ ≤ 7293034; omega⟩ (fun r_2 u7_1 H locs Y hv => ?_)
  refine z_topi hv (fun x6_3 ex6_3 hv => ?_)
  refine lv_istore (lv' := [(6, .int x6_3), (0, .ref b), (1, .ref (a 6 99)), (2, .ref (a 7 99)), (3, .ref (a 8 0)), (4, .int x4), (5, .int x5)]) hx hb dL_law_791 hl (by decide) rfl (fun ls hl => ?_)
  refine lv_aload_n hx hb dL_law_793 rfl (lv_at hl 3 rfl) ?_
  refine z_callVi C Y (c_X7_thrown l hv) (frl_7 ..) (cwV 0 hts gL_law_X7_thrown rfl rfl rfl (by decide +kernel) ⟨Nat.le_of_ble_eq_true rfl, Nat.le_of_ble_eq_true rfl⟩) (ge7_7 ..) rfl rfl rfl hl.1 rfl (Nat.le_of_ble_eq_true rfl) dL_law_794 ⟨by show _ ≤ 601024; omega, by show _ ≤ 7293034; omega⟩ (fun r_5 u7_4 H locs Y hv => ?_)
  refine lv_iload hx hb dL_law_797 (lv_at hl 6 rfl) ?_
  refine lv_icmp_eq (tgt := 804) hx hb dL_law_799 (by decide) (fun hc => ?_) (fun hc => ?_)
  · have hv := hv.1 hc
    refine lv_iload hx hb dL_law_804 (lv_at hl 6 rfl) ?_
    refine lv_if_ne (tgt := 821) hx hb dL_law_806 (by decide) (fun hc => ?_) (fun hc => ?_)
    · have hv := hv.2 hc
      refine lv_goto (tgt := 1375) hx hb dL_law_821 (by decide) ?_
      obtain ⟨x4_6, ex4_6, hv⟩ := z_nv hv
      refine lv_iinc (v := x4_6) (lv' := [(4, .int x4_6), (6, .int x6_3), (0, .ref b), (1, .ref (a 6 99)), (2, .ref (a 7 99)), (3, .ref (a 8 0)), (5, .int x5)]) hx hb dL_law_1375 hl (k := 5) rfl (by rw [ex4_6]; rfl) (by decide) rfl (fun ls hl => ?_)
      refine lv_goto (tgt := 23) hx hb dL_law_1378 (by decide) ?_
      exact hJ23 _ _ _ _ _ _ _ _ _ _ _ _ _ _ hv Y (lv_sub hl [2, 3, 4, 5, 0] rfl)
    · have hv := hv.1 hc
      refine lv_aload_n hx hb dL_law_809 rfl (lv_at hl 4 rfl) ?_
      refine lv_iconst (v := 0) hx hb dL_law_810 (by decide) ?_
      refine z_ldJ C Y (pal_8_0 ..) z_in01 dL_law_811 ?_
      refine lv_iload hx hb dL_law_812 (lv_at hl 0 rfl) ?_
      refine lv_i2l hx hb dL_law_814 rfl ?_
      refine W.lcmp hx hb dL_law_815 ?_
      refine lv_if_eq (tgt := 821) hx hb dL_law_816 (by decide) (fun hc => ?_) (fun hc => ?_)
      · have hv := hv.1 hc
        refine lv_goto (tgt := 1375) hx hb dL_law_821 (by decide) ?_
        obtain ⟨x4_7, ex4_7, hv⟩ := z_nv hv
        refine lv_iinc (v := x4_7) (lv' := [(4, .int x4_7), (6, .int x6_3), (0, .ref b), (1, .ref (a 6 99)), (2, .ref (a 7 99)), (3, .ref (a 8 0)), (5, .int x5)]) hx hb dL_law_1375 hl (k := 5) rfl (by rw [ex4_7]; rfl) (by decide) rfl (fun ls hl => ?_)
        refine lv_goto (tgt := 23) hx hb dL_law_1378 (by decide) ?_
        exact hJ23 _ _ _ _ _ _ _ _ _ _ _ _ _ _ hv Y (lv_sub hl [2, 3, 4, 5, 0] rfl)
      · have hv := hv.2 hc
        refine lv_iconst (v := 0) hx hb dL_law_819 (by decide) ?_
        exact hv.elim
  · have hv := hv.2 hc
    refine lv_iconst (v := 0) hx hb dL_law_802 (by decide) ?_
    exact hv.elim

def wp_L_law_761 (L : Nat) (xs : Nat → Int32) (J23 : Int32 → Nat → Nat → zSt → zSt → zSt → zSt → zSt → zSt → zSt → (Nat → Int64) → Prop) (x4 : Int32) (t0 : Int32) (t1 : Int32) (cs sl : Nat) (u0 : zSt) (u1 : zSt) (u2 : zSt) (u3 : zSt) (u4 : zSt) (u5 : zSt) (u7 : zSt) (u8 : (Nat → Int64)) : Prop :=
  (cs + 1 ≤ 601024 ∧ sl + 6 ≤ 7293034) ∧ (TL_trial (fun (r_8 : Int32) (w_10 : zSt × zSt × zSt × zSt × zSt × zSt × (Nat → Int64)) => ∀ x5_9 : Int32, x5_9 = r_8 → vp_in (x4 + 1) L ∧ (vp_in (x4 + 2) L ∧ (((xs (x4 + 2).toNatClampNeg) = (0 : Int32) → wp_L_law_788 L xs J23 x4 x5_9 0 (xs (x4 + 1).toNatClampNeg) (cs + 1) (sl + 6) w_10.1 w_10.2.1 w_10.2.2.1 w_10.2.2.2.1 w_10.2.2.2.2.1 w_10.2.2.2.2.2.1 u7 w_10.2.2.2.2.2.2) ∧ (¬ (xs (x4 + 2).toNatClampNeg) = (0 : Int32) → wp_L_law_788 L xs J23 x4 x5_9 1 (xs (x4 + 1).toNatClampNeg) (cs + 1) (sl + 6) w_10.1 w_10.2.1 w_10.2.2.1 w_10.2.2.2.1 w_10.2.2.2.2.1 w_10.2.2.2.2.2.1 u7 w_10.2.2.2.2.2.2)))) t1 t0 u0 u1 u2 u3 u4 u5 u8)
set_option maxHeartbeats 4000000 in
set_option maxRecDepth 100000 in
theorem bk_L_law_761 {a : Nat → Nat → Nat} {b L : Nat} {xs : Nat → Int32} {J23 : Int32 → Nat → Nat → zSt → zSt → zSt → zSt → zSt → zSt → zSt → (Nat → Int64) → Prop} {x4 : Int32} {t0 : Int32} {t1 : Int32} {cs sl : Nat} {u0 : zSt} {u1 : zSt} {u2 : zSt} {u3 : zSt} {u4 : zSt} {u5 : zSt} {u7 : zSt} {u8 : (Nat → Int64)} (C : zCx p s m args c cL_law 7 RL wsL_law D cI cZ cJ A) (Y : zDy D A s.heap (kl a cI cZ cJ (u0, u1, u2, u3, u4, u5, u7, u8)) H locs) (hl : lv_has ls 7 [(0, .ref b), (1, .ref (a 6 99)), (2, .ref (a 7 99)), (3, .ref (a 8 0)), (4, .int x4)]) (hlt : l.stackTraces = false) (hX : zXe A s s.heap) (hXs : va_X b L xs s s.heap) (hbl : b < s.heap.size) (hbA : ¬ A b) (hret : ∀ {pc : Nat} {H : Heap} {locs : List Loc} {ls : Array Slot} {cs sl : Nat} {u0 : zSt} {u1 : zSt} {u2 : zSt} {u3 : zSt} {u4 : zSt} {u5 : zSt} {u7 : zSt} {u8 : (Nat → Int64)}, zDy D A s.heap (kl a cI cZ cJ (u0, u1, u2, u3, u4, u5, u7, u8)) H locs → (cs ≤ 601024 ∧ sl ≤ 7293034) → decode cL_law pc = .ok (.ireturn, 1) → W p l e room_1 s m args below meth c H locs cs sl Q (F0 m pc ls [.int 1])) (hJ23 : ∀ (x4 : Int32) (cs sl : Nat) (u0 : zSt) (u1 : zSt) (u2 : zSt) (u3 : zSt) (u4 : zSt) (u5 : zSt) (u7 : zSt) (u8 : (Nat → Int64)) (H : Heap) (locs : List Loc) (ls : Array Slot), J23 x4 cs sl u0 u1 u2 u3 u4 u5 u7 u8 → zDy D A s.heap (kl a cI cZ cJ (u0, u1, u2, u3, u4, u5, u7, u8)) H locs → lv_has ls 7 [(0, .ref b), (1, .ref (a 6 99)), (2, .ref (a 7 99)), (3, .ref (a 8 0)), (4, .int x4)] → W p l e room_1 s m args below meth c H locs cs sl Q (F0 m 23 ls [])) (hv : wp_L_law_761 L xs J23 x4 t0 t1 cs sl u0 u1 u2 u3 u4 u5 u7 u8) : W p l e room_1 s m args below meth c H locs cs sl Q (F0 m 761 ls [.int t0, .int t1, .ref (a 6 99)]) := by
  unfold wp_L_law_761 at hv
  obtain ⟨hcs, hv⟩ := hv
  obtain ⟨hx, hb, hml, hown, hts, hK, hA⟩ := id C
  refine lv_aload_n hx hb dL_law_761 rfl (lv_at hl 3 rfl) ?_
  refine z_callW C Y hX (c_L_trial l hlt hv) (frl_w ..) (vx_cwSW 4 hts gL_law_L_trial rfl rfl rfl (by decide +kernel) ⟨Nat.le_of_ble_eq_true rfl, Nat.le_of_ble_eq_true rfl⟩) rfl hl.1 rfl (Nat.le_of_ble_eq_true rfl) dL_law_762 ⟨by show _ ≤ 601024; omega, by show _ ≤ 7293034; omega⟩ (fun r_8 ⟨u0_1, u1_2, u2_3, u3_4, u4_5, u5_6, u8_7⟩ H locs Y hv => ?_)
  refine z_topi hv (fun x5_9 ex5_9 hv => ?_)
  refine lv_istore (lv' := [(5, .int x5_9), (0, .ref b), (1, .ref (a 6 99)), (2, .ref (a 7 99)), (3, .ref (a 8 0)), (4, .int x4)]) hx hb dL_law_765 hl (by decide) rfl (fun ls hl => ?_)
  refine lv_aload_n hx hb dL_law_767 rfl (lv_at hl 3 rfl) ?_
  refine lv_aload_n hx hb dL_law_768 rfl (lv_at hl 1 rfl) ?_
  refine lv_iload hx hb dL_law_769 (lv_at hl 5 rfl) ?_
  refine lv_iconst (v := 1) hx hb dL_law_771 (by decide) ?_
  refine lv_iadd hx hb dL_law_772 ?_
  obtain ⟨hi, hv⟩ := hv
  refine va_sld hx hb hXs hbl hbA Y.2.2 hi dL_law_773 ?_
  refine lv_aload_n hx hb dL_law_774 rfl (lv_at hl 1 rfl) ?_
  refine lv_iload hx hb dL_law_775 (lv_at hl 5 rfl) ?_
  refine lv_iconst (v := 2) hx hb dL_law_777 (by decide) ?_
  refine lv_iadd hx hb dL_law_778 ?_
  obtain ⟨hi, hv⟩ := hv
  refine va_sld hx hb hXs hbl hbA Y.2.2 hi dL_law_779 ?_
  refine lv_if_eq (tgt := 787) hx hb dL_law_780 (by decide) (fun hc => ?_) (fun hc => ?_)
  · have hv := hv.1 hc
    refine lv_iconst (v := 0) hx hb dL_law_787 (by decide) ?_
    exact bk_L_law_788 C Y (lv_sub hl [1, 2, 3, 4, 5, 0] rfl) hlt hX hXs hbl hbA hret hJ23 hv
  · have hv := hv.2 hc
    refine lv_iconst (v := 1) hx hb dL_law_783 (by decide) ?_
    refine lv_goto (tgt := 788) hx hb dL_law_784 (by decide) ?_
    exact bk_L_law_788 C Y (lv_sub hl [1, 2, 3, 4, 5, 0] rfl) hlt hX hXs hbl hbA hret hJ23 hv

def wp_L_law_740 (L : Nat) (xs : Nat → Int32) (J23 : Int32 → Nat → Nat → zSt → zSt → zSt → zSt → zSt → zSt → zSt → (Nat → Int64) → Prop) (x4 : Int32) (cs sl : Nat) (u0 : zSt) (u1 : zSt) (u2 : zSt) (u3 : zSt) (u4 : zSt) (u5 : zSt) (u7 : zSt) (u8 : (Nat → Int64)) : Prop :=
  (cs + 1 ≤ 601024 ∧ sl + 6 ≤ 7293034) ∧ (vp_in (x4 + 1) L ∧ (vp_in (x4 + 2) L ∧ (((xs (x4 + 2).toNatClampNeg) = (0 : Int32) → wp_L_law_761 L xs J23 x4 0 (xs (x4 + 1).toNatClampNeg) cs sl u0 u1 u2 u3 u4 u5 u7 u8) ∧ (¬ (xs (x4 + 2).toNatClampNeg) = (0 : Int32) → wp_L_law_761 L xs J23 x4 1 (xs (x4 + 1).toNatClampNeg) cs sl u0 u1 u2 u3 u4 u5 u7 u8))))
set_option maxHeartbeats 4000000 in
set_option maxRecDepth 100000 in
theorem bk_L_law_740 {a : Nat → Nat → Nat} {b L : Nat} {xs : Nat → Int32} {J23 : Int32 → Nat → Nat → zSt → zSt → zSt → zSt → zSt → zSt → zSt → (Nat → Int64) → Prop} {x4 : Int32} {cs sl : Nat} {u0 : zSt} {u1 : zSt} {u2 : zSt} {u3 : zSt} {u4 : zSt} {u5 : zSt} {u7 : zSt} {u8 : (Nat → Int64)} (C : zCx p s m args c cL_law 7 RL wsL_law D cI cZ cJ A) (Y : zDy D A s.heap (kl a cI cZ cJ (u0, u1, u2, u3, u4, u5, u7, u8)) H locs) (hl : lv_has ls 7 [(0, .ref b), (1, .ref (a 6 99)), (2, .ref (a 7 99)), (3, .ref (a 8 0)), (4, .int x4)]) (hlt : l.stackTraces = false) (hX : zXe A s s.heap) (hXs : va_X b L xs s s.heap) (hbl : b < s.heap.size) (hbA : ¬ A b) (hret : ∀ {pc : Nat} {H : Heap} {locs : List Loc} {ls : Array Slot} {cs sl : Nat} {u0 : zSt} {u1 : zSt} {u2 : zSt} {u3 : zSt} {u4 : zSt} {u5 : zSt} {u7 : zSt} {u8 : (Nat → Int64)}, zDy D A s.heap (kl a cI cZ cJ (u0, u1, u2, u3, u4, u5, u7, u8)) H locs → (cs ≤ 601024 ∧ sl ≤ 7293034) → decode cL_law pc = .ok (.ireturn, 1) → W p l e room_1 s m args below meth c H locs cs sl Q (F0 m pc ls [.int 1])) (hJ23 : ∀ (x4 : Int32) (cs sl : Nat) (u0 : zSt) (u1 : zSt) (u2 : zSt) (u3 : zSt) (u4 : zSt) (u5 : zSt) (u7 : zSt) (u8 : (Nat → Int64)) (H : Heap) (locs : List Loc) (ls : Array Slot), J23 x4 cs sl u0 u1 u2 u3 u4 u5 u7 u8 → zDy D A s.heap (kl a cI cZ cJ (u0, u1, u2, u3, u4, u5, u7, u8)) H locs → lv_has ls 7 [(0, .ref b), (1, .ref (a 6 99)), (2, .ref (a 7 99)), (3, .ref (a 8 0)), (4, .int x4)] → W p l e room_1 s m args below meth c H locs cs sl Q (F0 m 23 ls [])) (hv : wp_L_law_740 L xs J23 x4 cs sl u0 u1 u2 u3 u4 u5 u7 u8) : W p l e room_1 s m args below meth c H locs cs sl Q (F0 m 740 ls []) := by
  unfold wp_L_law_740 at hv
  obtain ⟨hcs, hv⟩ := hv
  obtain ⟨hx, hb, hml, hown, hts, hK, hA⟩ := id C
  refine lv_aload_n hx hb dL_law_740 rfl (lv_at hl 1 rfl) ?_
  refine lv_aload_n hx hb dL_law_741 rfl (lv_at hl 0 rfl) ?_
  refine lv_iload hx hb dL_law_742 (lv_at hl 4 rfl) ?_
  refine lv_iconst (v := 1) hx hb dL_law_744 (by decide) ?_
  refine lv_iadd hx hb dL_law_745 ?_
  obtain ⟨hi, hv⟩ := hv
  refine va_sld hx hb hXs hbl hbA Y.2.2 hi dL_law_746 ?_
  refine lv_aload_n hx hb dL_law_747 rfl (lv_at hl 0 rfl) ?_
  refine lv_iload hx hb dL_law_748 (lv_at hl 4 rfl) ?_
  refine lv_iconst (v := 2) hx hb dL_law_750 (by decide) ?_
  refine lv_iadd hx hb dL_law_751 ?_
  obtain ⟨hi, hv⟩ := hv
  refine va_sld hx hb hXs hbl hbA Y.2.2 hi dL_law_752 ?_
  refine lv_if_eq (tgt := 760) hx hb dL_law_753 (by decide) (fun hc => ?_) (fun hc => ?_)
  · have hv := hv.1 hc
    refine lv_iconst (v := 0) hx hb dL_law_760 (by decide) ?_
    exact bk_L_law_761 C Y (lv_sub hl [0, 1, 2, 3, 4] rfl) hlt hX hXs hbl hbA hret hJ23 hv
  · have hv := hv.2 hc
    refine lv_iconst (v := 1) hx hb dL_law_756 (by decide) ?_
    refine lv_goto (tgt := 761) hx hb dL_law_757 (by decide) ?_
    exact bk_L_law_761 C Y (lv_sub hl [0, 1, 2, 3, 4] rfl) hlt hX hXs hbl hbA hret hJ23 hv

def wp_L_law_364 (L : Nat) (xs : Nat → Int32) (J23 : Int32 → Nat → Nat → zSt → zSt → zSt → zSt → zSt → zSt → zSt → (Nat → Int64) → Prop) (x4 : Int32) (cs sl : Nat) (u0 : zSt) (u1 : zSt) (u2 : zSt) (u3 : zSt) (u4 : zSt) (u5 : zSt) (u7 : zSt) (u8 : (Nat → Int64)) : Prop :=
  (cs + 1 ≤ 601024 ∧ sl + 6 ≤ 7293034) ∧ (vp_in (x4 + 1) L ∧ (vp_in (x4 + 2) L ∧ (vp_in (x4 + 3) L ∧ (TL_parts (fun (r_8 : Int32) (w_17 : zSt × zSt × zSt × zSt × zSt × zSt × (Nat → Int64)) => ∀ x5_9 : Int32, x5_9 = r_8 → vp_in (x4 + 1) L ∧ (vp_in (x4 + 2) L ∧ (vp_in (x4 + 3) L ∧ (TX7_parts (fun (r_11 : Int32) (u7_10 : zSt) => ∀ x6_12 : Int32, x6_12 = r_11 → TX7_thrown (fun (r_14 : Int32) (u7_13 : zSt) => (r_14 = x5_9 → (x5_9 = (0 : Int32) → ((lg_cmp (w_17.2.2.2.2.2.2 (0 : Int32).toNatClampNeg) ((x6_12 : Int32).toInt64)) = (0 : Int32) → ∀ x4_16 : Int32, x4_16 = x4 + 5 → J23 x4_16 (cs + 1) (sl + 6) w_17.1 w_17.2.1 w_17.2.2.1 w_17.2.2.2.1 w_17.2.2.2.2.1 w_17.2.2.2.2.2.1 u7_13 w_17.2.2.2.2.2.2) ∧ (¬ (lg_cmp (w_17.2.2.2.2.2.2 (0 : Int32).toNatClampNeg) ((x6_12 : Int32).toInt64)) = (0 : Int32) → False)) ∧ (¬ x5_9 = (0 : Int32) → ∀ x4_15 : Int32, x4_15 = x4 + 5 → J23 x4_15 (cs + 1) (sl + 6) w_17.1 w_17.2.1 w_17.2.2.1 w_17.2.2.2.1 w_17.2.2.2.2.1 w_17.2.2.2.2.2.1 u7_13 w_17.2.2.2.2.2.2)) ∧ (¬ r_14 = x5_9 → False))  u7_10) (xs (x4 + 1).toNatClampNeg) (xs (x4 + 2).toNatClampNeg) (xs (x4 + 3).toNatClampNeg) u7)))) (xs (x4 + 1).toNatClampNeg) (xs (x4 + 2).toNatClampNeg) (xs (x4 + 3).toNatClampNeg) u0 u1 u2 u3 u4 u5 u8))))
set_option maxHeartbeats 4000000 in
set_option maxRecDepth 100000 in
theorem bk_L_law_364 {a : Nat → Nat → Nat} {b L : Nat} {xs : Nat → Int32} {J23 : Int32 → Nat → Nat → zSt → zSt → zSt → zSt → zSt → zSt → zSt → (Nat → Int64) → Prop} {x4 : Int32} {cs sl : Nat} {u0 : zSt} {u1 : zSt} {u2 : zSt} {u3 : zSt} {u4 : zSt} {u5 : zSt} {u7 : zSt} {u8 : (Nat → Int64)} (C : zCx p s m args c cL_law 7 RL wsL_law D cI cZ cJ A) (Y : zDy D A s.heap (kl a cI cZ cJ (u0, u1, u2, u3, u4, u5, u7, u8)) H locs) (hl : lv_has ls 7 [(0, .ref b), (1, .ref (a 6 99)), (2, .ref (a 7 99)), (3, .ref (a 8 0)), (4, .int x4)]) (hlt : l.stackTraces = false) (hX : zXe A s s.heap) (hXs : va_X b L xs s s.heap) (hbl : b < s.heap.size) (hbA : ¬ A b) (hret : ∀ {pc : Nat} {H : Heap} {locs : List Loc} {ls : Array Slot} {cs sl : Nat} {u0 : zSt} {u1 : zSt} {u2 : zSt} {u3 : zSt} {u4 : zSt} {u5 : zSt} {u7 : zSt} {u8 : (Nat → Int64)}, zDy D A s.heap (kl a cI cZ cJ (u0, u1, u2, u3, u4, u5, u7, u8)) H locs → (cs ≤ 601024 ∧ sl ≤ 7293034) → decode cL_law pc = .ok (.ireturn, 1) → W p l e room_1 s m args below meth c H locs cs sl Q (F0 m pc ls [.int 1])) (hJ23 : ∀ (x4 : Int32) (cs sl : Nat) (u0 : zSt) (u1 : zSt) (u2 : zSt) (u3 : zSt) (u4 : zSt) (u5 : zSt) (u7 : zSt) (u8 : (Nat → Int64)) (H : Heap) (locs : List Loc) (ls : Array Slot), J23 x4 cs sl u0 u1 u2 u3 u4 u5 u7 u8 → zDy D A s.heap (kl a cI cZ cJ (u0, u1, u2, u3, u4, u5, u7, u8)) H locs → lv_has ls 7 [(0, .ref b), (1, .ref (a 6 99)), (2, .ref (a 7 99)), (3, .ref (a 8 0)), (4, .int x4)] → W p l e room_1 s m args below meth c H locs cs sl Q (F0 m 23 ls [])) (hv : wp_L_law_364 L xs J23 x4 cs sl u0 u1 u2 u3 u4 u5 u7 u8) : W p l e room_1 s m args below meth c H locs cs sl Q (F0 m 364 ls []) := by
  unfold wp_L_law_364 at hv
  obtain ⟨hcs, hv⟩ := hv
  obtain ⟨hx, hb, hml, hown, hts, hK, hA⟩ := id C
  refine lv_aload_n hx hb dL_law_364 rfl (lv_at hl 1 rfl) ?_
  refine lv_aload_n hx hb dL_law_365 rfl (lv_at hl 0 rfl) ?_
  refine lv_iload hx hb dL_law_366 (lv_at hl 4 rfl) ?_
  refine lv_iconst (v := 1) hx hb dL_law_368 (by decide) ?_
  refine lv_iadd hx hb dL_law_369 ?_
  obtain ⟨hi, hv⟩ := hv
  refine va_sld hx hb hXs hbl hbA Y.2.2 hi dL_law_370 ?_
  refine lv_aload_n hx hb dL_law_371 rfl (lv_at hl 0 rfl) ?_
  refine lv_iload hx hb dL_law_372 (lv_at hl 4 rfl) ?_
  refine lv_iconst (v := 2) hx hb dL_law_374 (by decide) ?_
  refine lv_iadd hx hb dL_law_375 ?_
  obtain ⟨hi, hv⟩ := hv
  refine va_sld hx hb hXs hbl hbA Y.2.2 hi dL_law_376 ?_
  refine lv_aload_n hx hb dL_law_377 rfl (lv_at hl 0 rfl) ?_
  refine lv_iload hx hb dL_law_378 (lv_at hl 4 rfl) ?_
  refine lv_iconst (v := 3) hx hb dL_law_380 (by decide) ?_
  refine lv_iadd hx hb dL_law_381 ?_
  obtain ⟨hi, hv⟩ := hv
  refine va_sld hx hb hXs hbl hbA Y.2.2 hi dL_law_382 ?_
  refine lv_aload_n hx hb dL_law_383 rfl (lv_at hl 3 rfl) ?_
  refine z_callW C Y hX (c_L_parts l hlt hv) (frl_w ..) (vx_cwSW 5 hts gL_law_L_parts rfl rfl rfl (by decide +kernel) ⟨Nat.le_of_ble_eq_true rfl, Nat.le_of_ble_eq_true rfl⟩) rfl hl.1 rfl (Nat.le_of_ble_eq_true rfl) dL_law_384 ⟨by show _ ≤ 601024; omega, by show _ ≤ 7293034; omega⟩ (fun r_8 ⟨u0_1, u1_2, u2_3, u3_4, u4_5, u5_6, u8_7⟩ H locs Y hv => ?_)
  refine z_topi hv (fun x5_9 ex5_9 hv => ?_)
  refine lv_istore (lv' := [(5, .int x5_9), (0, .ref b), (1, .ref (a 6 99)), (2, .ref (a 7 99)), (3, .ref (a 8 0)), (4, .int x4)]) hx hb dL_law_387 hl (by decide) rfl (fun ls hl => ?_)
  refine lv_aload_n hx hb dL_law_389 rfl (lv_at hl 3 rfl) ?_
  refine lv_aload_n hx hb dL_law_390 rfl (lv_at hl 1 rfl) ?_
  refine lv_iload hx hb dL_law_391 (lv_at hl 5 rfl) ?_
  refine lv_iconst (v := 1) hx hb dL_law_393 (by decide) ?_
  refine lv_iadd hx hb dL_law_394 ?_
  obtain ⟨hi, hv⟩ := hv
  refine va_sld hx hb hXs hbl hbA Y.2.2 hi dL_law_395 ?_
  refine lv_aload_n hx hb dL_law_396 rfl (lv_at hl 1 rfl) ?_
  refine lv_iload hx hb dL_law_397 (lv_at hl 5 rfl) ?_
  refine lv_iconst (v := 2) hx hb dL_law_399 (by decide) ?_
  refine lv_iadd hx hb dL_law_400 ?_
  obtain ⟨hi, hv⟩ := hv
  refine va_sld hx hb hXs hbl hbA Y.2.2 hi dL_law_401 ?_
  refine lv_aload_n hx hb dL_law_402 rfl (lv_at hl 1 rfl) ?_
  refine lv_iload hx hb dL_law_403 (lv_at hl 5 rfl) ?_
  refine lv_iconst (v := 3) hx hb dL_law_405 (by decide) ?_
  refine lv_iadd hx hb dL_law_406 ?_
  obtain ⟨hi, hv⟩ := hv
  refine va_sld hx hb hXs hbl hbA Y.2.2 hi dL_law_407 ?_
  refine z_callVi C Y (c_X7_parts l hv) (frl_7 ..) (cwV 3 hts gL_law_X7_parts rfl rfl rfl (by decide +kernel) ⟨Nat.le_of_ble_eq_true rfl, Nat.le_of_ble_eq_true rfl⟩) (ge7_7 ..) rfl rfl rfl hl.1 rfl (Nat.le_of_ble_eq_true rfl) dL_law_408 ⟨by show _ ≤ 601024; omega, by show _ ≤ 7293034; omega⟩ (fun r_11 u7_10 H locs Y hv => ?_)
  refine z_topi hv (fun x6_12 ex6_12 hv => ?_)
  refine lv_istore (lv' := [(6, .int x6_12), (5, .int x5_9), (0, .ref b), (1, .ref (a 6 99)), (2, .ref (a 7 99)), (3, .ref (a 8 0)), (4, .int x4)]) hx hb dL_law_411 hl (by decide) rfl (fun ls hl => ?_)
  refine lv_aload_n hx hb dL_law_413 rfl (lv_at hl 4 rfl) ?_
  refine z_callVi C Y (c_X7_thrown l hv) (frl_7 ..) (cwV 0 hts gL_law_X7_thrown rfl rfl rfl (by decide +kernel) ⟨Nat.le_of_ble_eq_true rfl, Nat.le_of_ble_eq_true rfl⟩) (ge7_7 ..) rfl rfl rfl hl.1 rfl (Nat.le_of_ble_eq_true rfl) dL_law_414 ⟨by show _ ≤ 601024; omega, by show _ ≤ 7293034; omega⟩ (fun r_14 u7_13 H locs Y hv => ?_)
  refine lv_iload hx hb dL_law_417 (lv_at hl 1 rfl) ?_
  refine lv_icmp_eq (tgt := 424) hx hb dL_law_419 (by decide) (fun hc => ?_) (fun hc => ?_)
  · have hv := hv.1 hc
    refine lv_iload hx hb dL_law_424 (lv_at hl 1 rfl) ?_
    refine lv_if_ne (tgt := 441) hx hb dL_law_426 (by decide) (fun hc => ?_) (fun hc => ?_)
    · have hv := hv.2 hc
      refine lv_goto (tgt := 1375) hx hb dL_law_441 (by decide) ?_
      obtain ⟨x4_15, ex4_15, hv⟩ := z_nv hv
      refine lv_iinc (v := x4_15) (lv' := [(4, .int x4_15), (6, .int x6_12), (5, .int x5_9), (0, .ref b), (1, .ref (a 6 99)), (2, .ref (a 7 99)), (3, .ref (a 8 0))]) hx hb dL_law_1375 hl (k := 6) rfl (by rw [ex4_15]; rfl) (by decide) rfl (fun ls hl => ?_)
      refine lv_goto (tgt := 23) hx hb dL_law_1378 (by decide) ?_
      exact hJ23 _ _ _ _ _ _ _ _ _ _ _ _ _ _ hv Y (lv_sub hl [3, 4, 5, 6, 0] rfl)
    · have hv := hv.1 hc
      refine lv_aload_n hx hb dL_law_429 rfl (lv_at hl 5 rfl) ?_
      refine lv_iconst (v := 0) hx hb dL_law_430 (by decide) ?_
      refine z_ldJ C Y (pal_8_0 ..) z_in01 dL_law_431 ?_
      refine lv_iload hx hb dL_law_432 (lv_at hl 0 rfl) ?_
      refine lv_i2l hx hb dL_law_434 rfl ?_
      refine W.lcmp hx hb dL_law_435 ?_
      refine lv_if_eq (tgt := 441) hx hb dL_law_436 (by decide) (fun hc => ?_) (fun hc => ?_)
      · have hv := hv.1 hc
        refine lv_goto (tgt := 1375) hx hb dL_law_441 (by decide) ?_
        obtain ⟨x4_16, ex4_16, hv⟩ := z_nv hv
        refine lv_iinc (v := x4_16) (lv' := [(4, .int x4_16), (6, .int x6_12), (5, .int x5_9), (0, .ref b), (1, .ref (a 6 99)), (2, .ref (a 7 99)), (3, .ref (a 8 0))]) hx hb dL_law_1375 hl (k := 6) rfl (by rw [ex4_16]; rfl) (by decide) rfl (fun ls hl => ?_)
        refine lv_goto (tgt := 23) hx hb dL_law_1378 (by decide) ?_
        exact hJ23 _ _ _ _ _ _ _ _ _ _ _ _ _ _ hv Y (lv_sub hl [3, 4, 5, 6, 0] rfl)
      · have hv := hv.2 hc
        refine lv_iconst (v := 0) hx hb dL_law_439 (by decide) ?_
        exact hv.elim
  · have hv := hv.2 hc
    refine lv_iconst (v := 0) hx hb dL_law_422 (by decide) ?_
    exact hv.elim

def wp_L_law_1011 (L : Nat) (xs : Nat → Int32) (J23 : Int32 → Nat → Nat → zSt → zSt → zSt → zSt → zSt → zSt → zSt → (Nat → Int64) → Prop) (x4 : Int32) (cs sl : Nat) (u0 : zSt) (u1 : zSt) (u2 : zSt) (u3 : zSt) (u4 : zSt) (u5 : zSt) (u7 : zSt) (u8 : (Nat → Int64)) : Prop :=
  (cs + 1 ≤ 601024 ∧ sl + 6 ≤ 7293034) ∧ (vp_in (x4 + 1) L ∧ (vp_in (x4 + 2) L ∧ (TL_slats (fun (r_8 : Int32) (w_17 : zSt × zSt × zSt × zSt × zSt × zSt × (Nat → Int64)) => ∀ x5_9 : Int32, x5_9 = r_8 → vp_in (x4 + 1) L ∧ (vp_in (x4 + 2) L ∧ (TX7_slats (fun (r_11 : Int32) (u7_10 : zSt) => ∀ x6_12 : Int32, x6_12 = r_11 → TX7_thrown (fun (r_14 : Int32) (u7_13 : zSt) => (r_14 = x5_9 → (x5_9 = (0 : Int32) → ((lg_cmp (w_17.2.2.2.2.2.2 (0 : Int32).toNatClampNeg) ((x6_12 : Int32).toInt64)) = (0 : Int32) → ∀ x4_16 : Int32, x4_16 = x4 + 5 → J23 x4_16 (cs + 1) (sl + 6) w_17.1 w_17.2.1 w_17.2.2.1 w_17.2.2.2.1 w_17.2.2.2.2.1 w_17.2.2.2.2.2.1 u7_13 w_17.2.2.2.2.2.2) ∧ (¬ (lg_cmp (w_17.2.2.2.2.2.2 (0 : Int32).toNatClampNeg) ((x6_12 : Int32).toInt64)) = (0 : Int32) → False)) ∧ (¬ x5_9 = (0 : Int32) → ∀ x4_15 : Int32, x4_15 = x4 + 5 → J23 x4_15 (cs + 1) (sl + 6) w_17.1 w_17.2.1 w_17.2.2.1 w_17.2.2.2.1 w_17.2.2.2.2.1 w_17.2.2.2.2.2.1 u7_13 w_17.2.2.2.2.2.2)) ∧ (¬ r_14 = x5_9 → False))  u7_10) (xs (x4 + 1).toNatClampNeg) (xs (x4 + 2).toNatClampNeg) u7))) (xs (x4 + 1).toNatClampNeg) (xs (x4 + 2).toNatClampNeg) u0 u1 u2 u3 u4 u5 u8)))
set_option maxHeartbeats 4000000 in
set_option maxRecDepth 100000 in
theorem bk_L_law_1011 {a : Nat → Nat → Nat} {b L : Nat} {xs : Nat → Int32} {J23 : Int32 → Nat → Nat → zSt → zSt → zSt → zSt → zSt → zSt → zSt → (Nat → Int64) → Prop} {x4 : Int32} {cs sl : Nat} {u0 : zSt} {u1 : zSt} {u2 : zSt} {u3 : zSt} {u4 : zSt} {u5 : zSt} {u7 : zSt} {u8 : (Nat → Int64)} (C : zCx p s m args c cL_law 7 RL wsL_law D cI cZ cJ A) (Y : zDy D A s.heap (kl a cI cZ cJ (u0, u1, u2, u3, u4, u5, u7, u8)) H locs) (hl : lv_has ls 7 [(0, .ref b), (1, .ref (a 6 99)), (2, .ref (a 7 99)), (3, .ref (a 8 0)), (4, .int x4)]) (hlt : l.stackTraces = false) (hX : zXe A s s.heap) (hXs : va_X b L xs s s.heap) (hbl : b < s.heap.size) (hbA : ¬ A b) (hret : ∀ {pc : Nat} {H : Heap} {locs : List Loc} {ls : Array Slot} {cs sl : Nat} {u0 : zSt} {u1 : zSt} {u2 : zSt} {u3 : zSt} {u4 : zSt} {u5 : zSt} {u7 : zSt} {u8 : (Nat → Int64)}, zDy D A s.heap (kl a cI cZ cJ (u0, u1, u2, u3, u4, u5, u7, u8)) H locs → (cs ≤ 601024 ∧ sl ≤ 7293034) → decode cL_law pc = .ok (.ireturn, 1) → W p l e room_1 s m args below meth c H locs cs sl Q (F0 m pc ls [.int 1])) (hJ23 : ∀ (x4 : Int32) (cs sl : Nat) (u0 : zSt) (u1 : zSt) (u2 : zSt) (u3 : zSt) (u4 : zSt) (u5 : zSt) (u7 : zSt) (u8 : (Nat → Int64)) (H : Heap) (locs : List Loc) (ls : Array Slot), J23 x4 cs sl u0 u1 u2 u3 u4 u5 u7 u8 → zDy D A s.heap (kl a cI cZ cJ (u0, u1, u2, u3, u4, u5, u7, u8)) H locs → lv_has ls 7 [(0, .ref b), (1, .ref (a 6 99)), (2, .ref (a 7 99)), (3, .ref (a 8 0)), (4, .int x4)] → W p l e room_1 s m args below meth c H locs cs sl Q (F0 m 23 ls [])) (hv : wp_L_law_1011 L xs J23 x4 cs sl u0 u1 u2 u3 u4 u5 u7 u8) : W p l e room_1 s m args below meth c H locs cs sl Q (F0 m 1011 ls []) := by
  unfold wp_L_law_1011 at hv
  obtain ⟨hcs, hv⟩ := hv
  obtain ⟨hx, hb, hml, hown, hts, hK, hA⟩ := id C
  refine lv_aload_n hx hb dL_law_1011 rfl (lv_at hl 1 rfl) ?_
  refine lv_aload_n hx hb dL_law_1012 rfl (lv_at hl 0 rfl) ?_
  refine lv_iload hx hb dL_law_1013 (lv_at hl 4 rfl) ?_
  refine lv_iconst (v := 1) hx hb dL_law_1015 (by decide) ?_
  refine lv_iadd hx hb dL_law_1016 ?_
  obtain ⟨hi, hv⟩ := hv
  refine va_sld hx hb hXs hbl hbA Y.2.2 hi dL_law_1017 ?_
  refine lv_aload_n hx hb dL_law_1018 rfl (lv_at hl 0 rfl) ?_
  refine lv_iload hx hb dL_law_1019 (lv_at hl 4 rfl) ?_
  refine lv_iconst (v := 2) hx hb dL_law_1021 (by decide) ?_
  refine lv_iadd hx hb dL_law_1022 ?_
  obtain ⟨hi, hv⟩ := hv
  refine va_sld hx hb hXs hbl hbA Y.2.2 hi dL_law_1023 ?_
  refine lv_aload_n hx hb dL_law_1024 rfl (lv_at hl 3 rfl) ?_
  refine z_callW C Y hX (c_L_slats l hlt hv) (frl_w ..) (vx_cwSW 4 hts gL_law_L_slats rfl rfl rfl (by decide +kernel) ⟨Nat.le_of_ble_eq_true rfl, Nat.le_of_ble_eq_true rfl⟩) rfl hl.1 rfl (Nat.le_of_ble_eq_true rfl) dL_law_1025 ⟨by show _ ≤ 601024; omega, by show _ ≤ 7293034; omega⟩ (fun r_8 ⟨u0_1, u1_2, u2_3, u3_4, u4_5, u5_6, u8_7⟩ H locs Y hv => ?_)
  refine z_topi hv (fun x5_9 ex5_9 hv => ?_)
  refine lv_istore (lv' := [(5, .int x5_9), (0, .ref b), (1, .ref (a 6 99)), (2, .ref (a 7 99)), (3, .ref (a 8 0)), (4, .int x4)]) hx hb dL_law_1028 hl (by decide) rfl (fun ls hl => ?_)
  refine lv_aload_n hx hb dL_law_1030 rfl (lv_at hl 3 rfl) ?_
  refine lv_aload_n hx hb dL_law_1031 rfl (lv_at hl 1 rfl) ?_
  refine lv_iload hx hb dL_law_1032 (lv_at hl 5 rfl) ?_
  refine lv_iconst (v := 1) hx hb dL_law_1034 (by decide) ?_
  refine lv_iadd hx hb dL_law_1035 ?_
  obtain ⟨hi, hv⟩ := hv
  refine va_sld hx hb hXs hbl hbA Y.2.2 hi dL_law_1036 ?_
  refine lv_aload_n hx hb dL_law_1037 rfl (lv_at hl 1 rfl) ?_
  refine lv_iload hx hb dL_law_1038 (lv_at hl 5 rfl) ?_
  refine lv_iconst (v := 2) hx hb dL_law_1040 (by decide) ?_
  refine lv_iadd hx hb dL_law_1041 ?_
  obtain ⟨hi, hv⟩ := hv
  refine va_sld hx hb hXs hbl hbA Y.2.2 hi dL_law_1042 ?_
  refine z_callVi C Y (c_X7_slats l hv) (frl_7 ..) (cwV 2 hts gL_law_X7_slats rfl rfl rfl (by decide +kernel) ⟨Nat.le_of_ble_eq_true rfl, Nat.le_of_ble_eq_true rfl⟩) (ge7_7 ..) rfl rfl rfl hl.1 rfl (Nat.le_of_ble_eq_true rfl) dL_law_1043 ⟨by show _ ≤ 601024; omega, by show _ ≤ 7293034; omega⟩ (fun r_11 u7_10 H locs Y hv => ?_)
  refine z_topi hv (fun x6_12 ex6_12 hv => ?_)
  refine lv_istore (lv' := [(6, .int x6_12), (5, .int x5_9), (0, .ref b), (1, .ref (a 6 99)), (2, .ref (a 7 99)), (3, .ref (a 8 0)), (4, .int x4)]) hx hb dL_law_1046 hl (by decide) rfl (fun ls hl => ?_)
  refine lv_aload_n hx hb dL_law_1048 rfl (lv_at hl 4 rfl) ?_
  refine z_callVi C Y (c_X7_thrown l hv) (frl_7 ..) (cwV 0 hts gL_law_X7_thrown rfl rfl rfl (by decide +kernel) ⟨Nat.le_of_ble_eq_true rfl, Nat.le_of_ble_eq_true rfl⟩) (ge7_7 ..) rfl rfl rfl hl.1 rfl (Nat.le_of_ble_eq_true rfl) dL_law_1049 ⟨by show _ ≤ 601024; omega, by show _ ≤ 7293034; omega⟩ (fun r_14 u7_13 H locs Y hv => ?_)
  refine lv_iload hx hb dL_law_1052 (lv_at hl 1 rfl) ?_
  refine lv_icmp_eq (tgt := 1059) hx hb dL_law_1054 (by decide) (fun hc => ?_) (fun hc => ?_)
  · have hv := hv.1 hc
    refine lv_iload hx hb dL_law_1059 (lv_at hl 1 rfl) ?_
    refine lv_if_ne (tgt := 1076) hx hb dL_law_1061 (by decide) (fun hc => ?_) (fun hc => ?_)
    · have hv := hv.2 hc
      refine lv_goto (tgt := 1375) hx hb dL_law_1076 (by decide) ?_
      obtain ⟨x4_15, ex4_15, hv⟩ := z_nv hv
      refine lv_iinc (v := x4_15) (lv' := [(4, .int x4_15), (6, .int x6_12), (5, .int x5_9), (0, .ref b), (1, .ref (a 6 99)), (2, .ref (a 7 99)), (3, .ref (a 8 0))]) hx hb dL_law_1375 hl (k := 6) rfl (by rw [ex4_15]; rfl) (by decide) rfl (fun ls hl => ?_)
      refine lv_goto (tgt := 23) hx hb dL_law_1378 (by decide) ?_
      exact hJ23 _ _ _ _ _ _ _ _ _ _ _ _ _ _ hv Y (lv_sub hl [3, 4, 5, 6, 0] rfl)
    · have hv := hv.1 hc
      refine lv_aload_n hx hb dL_law_1064 rfl (lv_at hl 5 rfl) ?_
      refine lv_iconst (v := 0) hx hb dL_law_1065 (by decide) ?_
      refine z_ldJ C Y (pal_8_0 ..) z_in01 dL_law_1066 ?_
      refine lv_iload hx hb dL_law_1067 (lv_at hl 0 rfl) ?_
      refine lv_i2l hx hb dL_law_1069 rfl ?_
      refine W.lcmp hx hb dL_law_1070 ?_
      refine lv_if_eq (tgt := 1076) hx hb dL_law_1071 (by decide) (fun hc => ?_) (fun hc => ?_)
      · have hv := hv.1 hc
        refine lv_goto (tgt := 1375) hx hb dL_law_1076 (by decide) ?_
        obtain ⟨x4_16, ex4_16, hv⟩ := z_nv hv
        refine lv_iinc (v := x4_16) (lv' := [(4, .int x4_16), (6, .int x6_12), (5, .int x5_9), (0, .ref b), (1, .ref (a 6 99)), (2, .ref (a 7 99)), (3, .ref (a 8 0))]) hx hb dL_law_1375 hl (k := 6) rfl (by rw [ex4_16]; rfl) (by decide) rfl (fun ls hl => ?_)
        refine lv_goto (tgt := 23) hx hb dL_law_1378 (by decide) ?_
        exact hJ23 _ _ _ _ _ _ _ _ _ _ _ _ _ _ hv Y (lv_sub hl [3, 4, 5, 6, 0] rfl)
      · have hv := hv.2 hc
        refine lv_iconst (v := 0) hx hb dL_law_1074 (by decide) ?_
        exact hv.elim
  · have hv := hv.2 hc
    refine lv_iconst (v := 0) hx hb dL_law_1057 (by decide) ?_
    exact hv.elim

def wp_L_law_887 (L : Nat) (xs : Nat → Int32) (J23 : Int32 → Nat → Nat → zSt → zSt → zSt → zSt → zSt → zSt → zSt → (Nat → Int64) → Prop) (x4 : Int32) (cs sl : Nat) (u0 : zSt) (u1 : zSt) (u2 : zSt) (u3 : zSt) (u4 : zSt) (u5 : zSt) (u7 : zSt) (u8 : (Nat → Int64)) : Prop :=
  (cs + 1 ≤ 601024 ∧ sl + 6 ≤ 7293034) ∧ (vp_in (x4 + 1) L ∧ (TL_days (fun (r_8 : Int32) (w_17 : zSt × zSt × zSt × zSt × zSt × zSt × (Nat → Int64)) => ∀ x5_9 : Int32, x5_9 = r_8 → vp_in (x4 + 1) L ∧ (TX7_days (fun (r_11 : Int32) (u7_10 : zSt) => ∀ x6_12 : Int32, x6_12 = r_11 → TX7_thrown (fun (r_14 : Int32) (u7_13 : zSt) => (r_14 = x5_9 → (x5_9 = (0 : Int32) → ((lg_cmp (w_17.2.2.2.2.2.2 (0 : Int32).toNatClampNeg) ((x6_12 : Int32).toInt64)) = (0 : Int32) → ∀ x4_16 : Int32, x4_16 = x4 + 5 → J23 x4_16 (cs + 1) (sl + 6) w_17.1 w_17.2.1 w_17.2.2.1 w_17.2.2.2.1 w_17.2.2.2.2.1 w_17.2.2.2.2.2.1 u7_13 w_17.2.2.2.2.2.2) ∧ (¬ (lg_cmp (w_17.2.2.2.2.2.2 (0 : Int32).toNatClampNeg) ((x6_12 : Int32).toInt64)) = (0 : Int32) → False)) ∧ (¬ x5_9 = (0 : Int32) → ∀ x4_15 : Int32, x4_15 = x4 + 5 → J23 x4_15 (cs + 1) (sl + 6) w_17.1 w_17.2.1 w_17.2.2.1 w_17.2.2.2.1 w_17.2.2.2.2.1 w_17.2.2.2.2.2.1 u7_13 w_17.2.2.2.2.2.2)) ∧ (¬ r_14 = x5_9 → False))  u7_10) (xs (x4 + 1).toNatClampNeg) u7)) (xs (x4 + 1).toNatClampNeg) u0 u1 u2 u3 u4 u5 u8))
set_option maxHeartbeats 4000000 in
set_option maxRecDepth 100000 in
theorem bk_L_law_887 {a : Nat → Nat → Nat} {b L : Nat} {xs : Nat → Int32} {J23 : Int32 → Nat → Nat → zSt → zSt → zSt → zSt → zSt → zSt → zSt → (Nat → Int64) → Prop} {x4 : Int32} {cs sl : Nat} {u0 : zSt} {u1 : zSt} {u2 : zSt} {u3 : zSt} {u4 : zSt} {u5 : zSt} {u7 : zSt} {u8 : (Nat → Int64)} (C : zCx p s m args c cL_law 7 RL wsL_law D cI cZ cJ A) (Y : zDy D A s.heap (kl a cI cZ cJ (u0, u1, u2, u3, u4, u5, u7, u8)) H locs) (hl : lv_has ls 7 [(0, .ref b), (1, .ref (a 6 99)), (2, .ref (a 7 99)), (3, .ref (a 8 0)), (4, .int x4)]) (hlt : l.stackTraces = false) (hX : zXe A s s.heap) (hXs : va_X b L xs s s.heap) (hbl : b < s.heap.size) (hbA : ¬ A b) (hret : ∀ {pc : Nat} {H : Heap} {locs : List Loc} {ls : Array Slot} {cs sl : Nat} {u0 : zSt} {u1 : zSt} {u2 : zSt} {u3 : zSt} {u4 : zSt} {u5 : zSt} {u7 : zSt} {u8 : (Nat → Int64)}, zDy D A s.heap (kl a cI cZ cJ (u0, u1, u2, u3, u4, u5, u7, u8)) H locs → (cs ≤ 601024 ∧ sl ≤ 7293034) → decode cL_law pc = .ok (.ireturn, 1) → W p l e room_1 s m args below meth c H locs cs sl Q (F0 m pc ls [.int 1])) (hJ23 : ∀ (x4 : Int32) (cs sl : Nat) (u0 : zSt) (u1 : zSt) (u2 : zSt) (u3 : zSt) (u4 : zSt) (u5 : zSt) (u7 : zSt) (u8 : (Nat → Int64)) (H : Heap) (locs : List Loc) (ls : Array Slot), J23 x4 cs sl u0 u1 u2 u3 u4 u5 u7 u8 → zDy D A s.heap (kl a cI cZ cJ (u0, u1, u2, u3, u4, u5, u7, u8)) H locs → lv_has ls 7 [(0, .ref b), (1, .ref (a 6 99)), (2, .ref (a 7 99)), (3, .ref (a 8 0)), (4, .int x4)] → W p l e room_1 s m args below meth c H locs cs sl Q (F0 m 23 ls [])) (hv : wp_L_law_887 L xs J23 x4 cs sl u0 u1 u2 u3 u4 u5 u7 u8) : W p l e room_1 s m args below meth c H locs cs sl Q (F0 m 887 ls []) := by
  unfold wp_L_law_887 at hv
  obtain ⟨hcs, hv⟩ := hv
  obtain ⟨hx, hb, hml, hown, hts, hK, hA⟩ := id C
  refine lv_aload_n hx hb dL_law_887 rfl (lv_at hl 1 rfl) ?_
  refine lv_aload_n hx hb dL_law_888 rfl (lv_at hl 0 rfl) ?_
  refine lv_iload hx hb dL_law_889 (lv_at hl 4 rfl) ?_
  refine lv_iconst (v := 1) hx hb dL_law_891 (by decide) ?_
  refine lv_iadd hx hb dL_law_892 ?_
  obtain ⟨hi, hv⟩ := hv
  refine va_sld hx hb hXs hbl hbA Y.2.2 hi dL_law_893 ?_
  refine lv_aload_n hx hb dL_law_894 rfl (lv_at hl 3 rfl) ?_
  refine z_callW C Y hX (c_L_days l hlt hv) (frl_w ..) (vx_cwSW 3 hts gL_law_L_days rfl rfl rfl (by decide +kernel) ⟨Nat.le_of_ble_eq_true rfl, Nat.le_of_ble_eq_true rfl⟩) rfl hl.1 rfl (Nat.le_of_ble_eq_true rfl) dL_law_895 ⟨by show _ ≤ 601024; omega, by show _ ≤ 7293034; omega⟩ (fun r_8 ⟨u0_1, u1_2, u2_3, u3_4, u4_5, u5_6, u8_7⟩ H locs Y hv => ?_)
  refine z_topi hv (fun x5_9 ex5_9 hv => ?_)
  refine lv_istore (lv' := [(5, .int x5_9), (0, .ref b), (1, .ref (a 6 99)), (2, .ref (a 7 99)), (3, .ref (a 8 0)), (4, .int x4)]) hx hb dL_law_898 hl (by decide) rfl (fun ls hl => ?_)
  refine lv_aload_n hx hb dL_law_900 rfl (lv_at hl 3 rfl) ?_
  refine lv_aload_n hx hb dL_law_901 rfl (lv_at hl 1 rfl) ?_
  refine lv_iload hx hb dL_law_902 (lv_at hl 5 rfl) ?_
  refine lv_iconst (v := 1) hx hb dL_law_904 (by decide) ?_
  refine lv_iadd hx hb dL_law_905 ?_
  obtain ⟨hi, hv⟩ := hv
  refine va_sld hx hb hXs hbl hbA Y.2.2 hi dL_law_906 ?_
  refine z_callVi C Y (c_X7_days l hv) (frl_7 ..) (cwV 1 hts gL_law_X7_days rfl rfl rfl (by decide +kernel) ⟨Nat.le_of_ble_eq_true rfl, Nat.le_of_ble_eq_true rfl⟩) (ge7_7 ..) rfl rfl rfl hl.1 rfl (Nat.le_of_ble_eq_true rfl) dL_law_907 ⟨by show _ ≤ 601024; omega, by show _ ≤ 7293034; omega⟩ (fun r_11 u7_10 H locs Y hv => ?_)
  refine z_topi hv (fun x6_12 ex6_12 hv => ?_)
  refine lv_istore (lv' := [(6, .int x6_12), (5, .int x5_9), (0, .ref b), (1, .ref (a 6 99)), (2, .ref (a 7 99)), (3, .ref (a 8 0)), (4, .int x4)]) hx hb dL_law_910 hl (by decide) rfl (fun ls hl => ?_)
  refine lv_aload_n hx hb dL_law_912 rfl (lv_at hl 4 rfl) ?_
  refine z_callVi C Y (c_X7_thrown l hv) (frl_7 ..) (cwV 0 hts gL_law_X7_thrown rfl rfl rfl (by decide +kernel) ⟨Nat.le_of_ble_eq_true rfl, Nat.le_of_ble_eq_true rfl⟩) (ge7_7 ..) rfl rfl rfl hl.1 rfl (Nat.le_of_ble_eq_true rfl) dL_law_913 ⟨by show _ ≤ 601024; omega, by show _ ≤ 7293034; omega⟩ (fun r_14 u7_13 H locs Y hv => ?_)
  refine lv_iload hx hb dL_law_916 (lv_at hl 1 rfl) ?_
  refine lv_icmp_eq (tgt := 923) hx hb dL_law_918 (by decide) (fun hc => ?_) (fun hc => ?_)
  · have hv := hv.1 hc
    refine lv_iload hx hb dL_law_923 (lv_at hl 1 rfl) ?_
    refine lv_if_ne (tgt := 940) hx hb dL_law_925 (by decide) (fun hc => ?_) (fun hc => ?_)
    · have hv := hv.2 hc
      refine lv_goto (tgt := 1375) hx hb dL_law_940 (by decide) ?_
      obtain ⟨x4_15, ex4_15, hv⟩ := z_nv hv
      refine lv_iinc (v := x4_15) (lv' := [(4, .int x4_15), (6, .int x6_12), (5, .int x5_9), (0, .ref b), (1, .ref (a 6 99)), (2, .ref (a 7 99)), (3, .ref (a 8 0))]) hx hb dL_law_1375 hl (k := 6) rfl (by rw [ex4_15]; rfl) (by decide) rfl (fun ls hl => ?_)
      refine lv_goto (tgt := 23) hx hb dL_law_1378 (by decide) ?_
      exact hJ23 _ _ _ _ _ _ _ _ _ _ _ _ _ _ hv Y (lv_sub hl [3, 4, 5, 6, 0] rfl)
    · have hv := hv.1 hc
      refine lv_aload_n hx hb dL_law_928 rfl (lv_at hl 5 rfl) ?_
      refine lv_iconst (v := 0) hx hb dL_law_929 (by decide) ?_
      refine z_ldJ C Y (pal_8_0 ..) z_in01 dL_law_930 ?_
      refine lv_iload hx hb dL_law_931 (lv_at hl 0 rfl) ?_
      refine lv_i2l hx hb dL_law_933 rfl ?_
      refine W.lcmp hx hb dL_law_934 ?_
      refine lv_if_eq (tgt := 940) hx hb dL_law_935 (by decide) (fun hc => ?_) (fun hc => ?_)
      · have hv := hv.1 hc
        refine lv_goto (tgt := 1375) hx hb dL_law_940 (by decide) ?_
        obtain ⟨x4_16, ex4_16, hv⟩ := z_nv hv
        refine lv_iinc (v := x4_16) (lv' := [(4, .int x4_16), (6, .int x6_12), (5, .int x5_9), (0, .ref b), (1, .ref (a 6 99)), (2, .ref (a 7 99)), (3, .ref (a 8 0))]) hx hb dL_law_1375 hl (k := 6) rfl (by rw [ex4_16]; rfl) (by decide) rfl (fun ls hl => ?_)
        refine lv_goto (tgt := 23) hx hb dL_law_1378 (by decide) ?_
        exact hJ23 _ _ _ _ _ _ _ _ _ _ _ _ _ _ hv Y (lv_sub hl [3, 4, 5, 6, 0] rfl)
      · have hv := hv.2 hc
        refine lv_iconst (v := 0) hx hb dL_law_938 (by decide) ?_
        exact hv.elim
  · have hv := hv.2 hc
    refine lv_iconst (v := 0) hx hb dL_law_921 (by decide) ?_
    exact hv.elim

def wp_L_law_23 (L : Nat) (xs : Nat → Int32) (J23 : Int32 → Nat → Nat → zSt → zSt → zSt → zSt → zSt → zSt → zSt → (Nat → Int64) → Prop) (x4 : Int32) (cs sl : Nat) (u0 : zSt) (u1 : zSt) (u2 : zSt) (u3 : zSt) (u4 : zSt) (u5 : zSt) (u7 : zSt) (u8 : (Nat → Int64)) : Prop :=
  (cs + 1 ≤ 601024 ∧ sl + 6 ≤ 7293034) ∧ ((((Int32.ofNat L) - 5) < x4 → (cs ≤ 601024 ∧ sl ≤ 7293034)) ∧ (¬ ((Int32.ofNat L) - 5) < x4 → vp_in x4 L ∧ (∀ t_1 : Int32, t_1 = ((xs x4.toNatClampNeg) &&& 31) → (t_1 = 0 → wp_L_law_136 L xs J23 x4 cs sl u0 u1 u2 u3 u4 u5 u7 u8) ∧ (¬ t_1 = 0 → (t_1 = 1 → wp_L_law_228 L xs J23 x4 cs sl u0 u1 u2 u3 u4 u5 u7 u8) ∧ (¬ t_1 = 1 → (t_1 = 2 → wp_L_law_296 L xs J23 x4 cs sl u0 u1 u2 u3 u4 u5 u7 u8) ∧ (¬ t_1 = 2 → (t_1 = 3 → wp_L_law_364 L xs J23 x4 cs sl u0 u1 u2 u3 u4 u5 u7 u8) ∧ (¬ t_1 = 3 → (t_1 = 4 → wp_L_law_444 L xs J23 x4 cs sl u0 u1 u2 u3 u4 u5 u7 u8) ∧ (¬ t_1 = 4 → (t_1 = 5 → wp_L_law_512 L xs J23 x4 cs sl u0 u1 u2 u3 u4 u5 u7 u8) ∧ (¬ t_1 = 5 → (t_1 = 6 → wp_L_law_580 L xs J23 x4 cs sl u0 u1 u2 u3 u4 u5 u7 u8) ∧ (¬ t_1 = 6 → (t_1 = 7 → wp_L_law_672 L xs J23 x4 cs sl u0 u1 u2 u3 u4 u5 u7 u8) ∧ (¬ t_1 = 7 → (t_1 = 8 → wp_L_law_740 L xs J23 x4 cs sl u0 u1 u2 u3 u4 u5 u7 u8) ∧ (¬ t_1 = 8 → (t_1 = 9 → wp_L_law_824 L xs J23 x4 cs sl u0 u1 u2 u3 u4 u5 u7 u8) ∧ (¬ t_1 = 9 → (t_1 = 10 → wp_L_law_887 L xs J23 x4 cs sl u0 u1 u2 u3 u4 u5 u7 u8) ∧ (¬ t_1 = 10 → (t_1 = 11 → wp_L_law_943 L xs J23 x4 cs sl u0 u1 u2 u3 u4 u5 u7 u8) ∧ (¬ t_1 = 11 → (t_1 = 12 → wp_L_law_1011 L xs J23 x4 cs sl u0 u1 u2 u3 u4 u5 u7 u8) ∧ (¬ t_1 = 12 → (t_1 = 13 → wp_L_law_1079 L xs J23 x4 cs sl u0 u1 u2 u3 u4 u5 u7 u8) ∧ (¬ t_1 = 13 → (t_1 = 14 → wp_L_law_1159 L xs J23 x4 cs sl u0 u1 u2 u3 u4 u5 u7 u8) ∧ (¬ t_1 = 14 → (t_1 = 15 → wp_L_law_1172 L xs J23 x4 cs sl u0 u1 u2 u3 u4 u5 u7 u8) ∧ (¬ t_1 = 15 → (t_1 = 16 → wp_L_law_1185 L xs J23 x4 cs sl u0 u1 u2 u3 u4 u5 u7 u8) ∧ (¬ t_1 = 16 → (t_1 = 17 → wp_L_law_1245 L xs J23 x4 cs sl u0 u1 u2 u3 u4 u5 u7 u8) ∧ (¬ t_1 = 17 → (t_1 = 18 → wp_L_law_1301 L xs J23 x4 cs sl u0 u1 u2 u3 u4 u5 u7 u8) ∧ (¬ t_1 = 18 → (t_1 = 19 → wp_L_law_1337 L xs J23 x4 cs sl u0 u1 u2 u3 u4 u5 u7 u8) ∧ (¬ t_1 = 19 → (t_1 = 20 → wp_L_law_1350 L xs J23 x4 cs sl u0 u1 u2 u3 u4 u5 u7 u8) ∧ (¬ t_1 = 20 → ∀ x4_2 : Int32, x4_2 = x4 + 5 → J23 x4_2 cs sl u0 u1 u2 u3 u4 u5 u7 u8))))))))))))))))))))))))
set_option maxHeartbeats 4000000 in
set_option maxRecDepth 100000 in
theorem bk_L_law_23 {a : Nat → Nat → Nat} {b L : Nat} {xs : Nat → Int32} {J23 : Int32 → Nat → Nat → zSt → zSt → zSt → zSt → zSt → zSt → zSt → (Nat → Int64) → Prop} {x4 : Int32} {cs sl : Nat} {u0 : zSt} {u1 : zSt} {u2 : zSt} {u3 : zSt} {u4 : zSt} {u5 : zSt} {u7 : zSt} {u8 : (Nat → Int64)} (C : zCx p s m args c cL_law 7 RL wsL_law D cI cZ cJ A) (Y : zDy D A s.heap (kl a cI cZ cJ (u0, u1, u2, u3, u4, u5, u7, u8)) H locs) (hl : lv_has ls 7 [(0, .ref b), (1, .ref (a 6 99)), (2, .ref (a 7 99)), (3, .ref (a 8 0)), (4, .int x4)]) (hlt : l.stackTraces = false) (hX : zXe A s s.heap) (hXs : va_X b L xs s s.heap) (hbl : b < s.heap.size) (hbA : ¬ A b) (hret : ∀ {pc : Nat} {H : Heap} {locs : List Loc} {ls : Array Slot} {cs sl : Nat} {u0 : zSt} {u1 : zSt} {u2 : zSt} {u3 : zSt} {u4 : zSt} {u5 : zSt} {u7 : zSt} {u8 : (Nat → Int64)}, zDy D A s.heap (kl a cI cZ cJ (u0, u1, u2, u3, u4, u5, u7, u8)) H locs → (cs ≤ 601024 ∧ sl ≤ 7293034) → decode cL_law pc = .ok (.ireturn, 1) → W p l e room_1 s m args below meth c H locs cs sl Q (F0 m pc ls [.int 1])) (hJ23 : ∀ (x4 : Int32) (cs sl : Nat) (u0 : zSt) (u1 : zSt) (u2 : zSt) (u3 : zSt) (u4 : zSt) (u5 : zSt) (u7 : zSt) (u8 : (Nat → Int64)) (H : Heap) (locs : List Loc) (ls : Array Slot), J23 x4 cs sl u0 u1 u2 u3 u4 u5 u7 u8 → zDy D A s.heap (kl a cI cZ cJ (u0, u1, u2, u3, u4, u5, u7, u8)) H locs → lv_has ls 7 [(0, .ref b), (1, .ref (a 6 99)), (2, .ref (a 7 99)), (3, .ref (a 8 0)), (4, .int x4)] → W p l e room_1 s m args below meth c H locs cs sl Q (F0 m 23 ls [])) (hv : wp_L_law_23 L xs J23 x4 cs sl u0 u1 u2 u3 u4 u5 u7 u8) : W p l e room_1 s m args below meth c H locs cs sl Q (F0 m 23 ls []) := by
  unfold wp_L_law_23 at hv
  obtain ⟨hcs, hv⟩ := hv
  obtain ⟨hx, hb, hml, hown, hts, hK, hA⟩ := id C
  refine lv_iload hx hb dL_law_23 (lv_at hl 4 rfl) ?_
  refine lv_aload_n hx hb dL_law_25 rfl (lv_at hl 0 rfl) ?_
  refine va_slen hx hb hXs hbl hbA Y.2.2 dL_law_26 ?_
  refine lv_iconst (v := 5) hx hb dL_law_27 (by decide) ?_
  refine lv_isub hx hb dL_law_28 ?_
  refine lv_icmp_gt (tgt := 1381) hx hb dL_law_29 (by decide) (fun hc => ?_) (fun hc => ?_)
  · have hv := hv.1 hc
    refine lv_iconst (v := 1) hx hb dL_law_1381 (by decide) ?_
    exact hret Y hv dL_law_1382
  · have hv := hv.2 hc
    refine lv_aload_n hx hb dL_law_32 rfl (lv_at hl 0 rfl) ?_
    refine lv_iload hx hb dL_law_33 (lv_at hl 4 rfl) ?_
    obtain ⟨hi, hv⟩ := hv
    refine va_sld hx hb hXs hbl hbA Y.2.2 hi dL_law_35 ?_
    refine lv_bipush (v := 31) hx hb dL_law_36 (by decide) ?_
    refine lv_iand hx hb dL_law_38 ?_
    refine z_topi hv (fun t_1 et_1 hv => ?_)
    by_cases h0_39 : t_1 = 0
    · have hv := hv.1 h0_39
      rw [h0_39]
      refine lv_tableIn (off := 97) (tgt := 136) hx hb dL_law_39 (by decide) (by decide) (by decide) (by decide) ?_
      exact bk_L_law_136 C Y (lv_sub hl [0, 1, 2, 3, 4] rfl) hlt hX hXs hbl hbA hret hJ23 hv
    replace hv := hv.2 h0_39
    by_cases h1_39 : t_1 = 1
    · have hv := hv.1 h1_39
      rw [h1_39]
      refine lv_tableIn (off := 189) (tgt := 228) hx hb dL_law_39 (by decide) (by decide) (by decide) (by decide) ?_
      exact bk_L_law_228 C Y (lv_sub hl [0, 1, 2, 3, 4] rfl) hlt hX hXs hbl hbA hret hJ23 hv
    replace hv := hv.2 h1_39
    by_cases h2_39 : t_1 = 2
    · have hv := hv.1 h2_39
      rw [h2_39]
      refine lv_tableIn (off := 257) (tgt := 296) hx hb dL_law_39 (by decide) (by decide) (by decide) (by decide) ?_
      exact bk_L_law_296 C Y (lv_sub hl [0, 1, 2, 3, 4] rfl) hlt hX hXs hbl hbA hret hJ23 hv
    replace hv := hv.2 h2_39
    by_cases h3_39 : t_1 = 3
    · have hv := hv.1 h3_39
      rw [h3_39]
      refine lv_tableIn (off := 325) (tgt := 364) hx hb dL_law_39 (by decide) (by decide) (by decide) (by decide) ?_
      exact bk_L_law_364 C Y (lv_sub hl [0, 1, 2, 3, 4] rfl) hlt hX hXs hbl hbA hret hJ23 hv
    replace hv := hv.2 h3_39
    by_cases h4_39 : t_1 = 4
    · have hv := hv.1 h4_39
      rw [h4_39]
      refine lv_tableIn (off := 405) (tgt := 444) hx hb dL_law_39 (by decide) (by decide) (by decide) (by decide) ?_
      exact bk_L_law_444 C Y (lv_sub hl [0, 1, 2, 3, 4] rfl) hlt hX hXs hbl hbA hret hJ23 hv
    replace hv := hv.2 h4_39
    by_cases h5_39 : t_1 = 5
    · have hv := hv.1 h5_39
      rw [h5_39]
      refine lv_tableIn (off := 473) (tgt := 512) hx hb dL_law_39 (by decide) (by decide) (by decide) (by decide) ?_
      exact bk_L_law_512 C Y (lv_sub hl [0, 1, 2, 3, 4] rfl) hlt hX hXs hbl hbA hret hJ23 hv
    replace hv := hv.2 h5_39
    by_cases h6_39 : t_1 = 6
    · have hv := hv.1 h6_39
      rw [h6_39]
      refine lv_tableIn (off := 541) (tgt := 580) hx hb dL_law_39 (by decide) (by decide) (by decide) (by decide) ?_
      exact bk_L_law_580 C Y (lv_sub hl [0, 1, 2, 3, 4] rfl) hlt hX hXs hbl hbA hret hJ23 hv
    replace hv := hv.2 h6_39
    by_cases h7_39 : t_1 = 7
    · have hv := hv.1 h7_39
      rw [h7_39]
      refine lv_tableIn (off := 633) (tgt := 672) hx hb dL_law_39 (by decide) (by decide) (by decide) (by decide) ?_
      exact bk_L_law_672 C Y (lv_sub hl [0, 1, 2, 3, 4] rfl) hlt hX hXs hbl hbA hret hJ23 hv
    replace hv := hv.2 h7_39
    by_cases h8_39 : t_1 = 8
    · have hv := hv.1 h8_39
      rw [h8_39]
      refine lv_tableIn (off := 701) (tgt := 740) hx hb dL_law_39 (by decide) (by decide) (by decide) (by decide) ?_
      exact bk_L_law_740 C Y (lv_sub hl [0, 1, 2, 3, 4] rfl) hlt hX hXs hbl hbA hret hJ23 hv
    replace hv := hv.2 h8_39
    by_cases h9_39 : t_1 = 9
    · have hv := hv.1 h9_39
      rw [h9_39]
      refine lv_tableIn (off := 785) (tgt := 824) hx hb dL_law_39 (by decide) (by decide) (by decide) (by decide) ?_
      exact bk_L_law_824 C Y (lv_sub hl [0, 1, 2, 3, 4] rfl) hlt hX hXs hbl hbA hret hJ23 hv
    replace hv := hv.2 h9_39
    by_cases h10_39 : t_1 = 10
    · have hv := hv.1 h10_39
      rw [h10_39]
      refine lv_tableIn (off := 848) (tgt := 887) hx hb dL_law_39 (by decide) (by decide) (by decide) (by decide) ?_
      exact bk_L_law_887 C Y (lv_sub hl [0, 1, 2, 3, 4] rfl) hlt hX hXs hbl hbA hret hJ23 hv
    replace hv := hv.2 h10_39
    by_cases h11_39 : t_1 = 11
    · have hv := hv.1 h11_39
      rw [h11_39]
      refine lv_tableIn (off := 904) (tgt := 943) hx hb dL_law_39 (by decide) (by decide) (by decide) (by decide) ?_
      exact bk_L_law_943 C Y (lv_sub hl [0, 1, 2, 3, 4] rfl) hlt hX hXs hbl hbA hret hJ23 hv
    replace hv := hv.2 h11_39
    by_cases h12_39 : t_1 = 12
    · have hv := hv.1 h12_39
      rw [h12_39]
      refine lv_tableIn (off := 972) (tgt := 1011) hx hb dL_law_39 (by decide) (by decide) (by decide) (by decide) ?_
      exact bk_L_law_1011 C Y (lv_sub hl [0, 1, 2, 3, 4] rfl) hlt hX hXs hbl hbA hret hJ23 hv
    replace hv := hv.2 h12_39
    by_cases h13_39 : t_1 = 13
    · have hv := hv.1 h13_39
      rw [h13_39]
      refine lv_tableIn (off := 1040) (tgt := 1079) hx hb dL_law_39 (by decide) (by decide) (by decide) (by decide) ?_
      exact bk_L_law_1079 C Y (lv_sub hl [0, 1, 2, 3, 4] rfl) hlt hX hXs hbl hbA hret hJ23 hv
    replace hv := hv.2 h13_39
    by_cases h14_39 : t_1 = 14
    · have hv := hv.1 h14_39
      rw [h14_39]
      refine lv_tableIn (off := 1120) (tgt := 1159) hx hb dL_law_39 (by decide) (by decide) (by decide) (by decide) ?_
      exact bk_L_law_1159 C Y (lv_sub hl [0, 1, 2, 3, 4] rfl) hlt hX hXs hbl hbA hret hJ23 hv
    replace hv := hv.2 h14_39
    by_cases h15_39 : t_1 = 15
    · have hv := hv.1 h15_39
      rw [h15_39]
      refine lv_tableIn (off := 1133) (tgt := 1172) hx hb dL_law_39 (by decide) (by decide) (by decide) (by decide) ?_
      exact bk_L_law_1172 C Y (lv_sub hl [0, 1, 2, 3, 4] rfl) hlt hX hXs hbl hbA hret hJ23 hv
    replace hv := hv.2 h15_39
    by_cases h16_39 : t_1 = 16
    · have hv := hv.1 h16_39
      rw [h16_39]
      refine lv_tableIn (off := 1146) (tgt := 1185) hx hb dL_law_39 (by decide) (by decide) (by decide) (by decide) ?_
      exact bk_L_law_1185 C Y (lv_sub hl [0, 1, 2, 3, 4] rfl) hlt hX hXs hbl hbA hret hJ23 hv
    replace hv := hv.2 h16_39
    by_cases h17_39 : t_1 = 17
    · have hv := hv.1 h17_39
      rw [h17_39]
      refine lv_tableIn (off := 1206) (tgt := 1245) hx hb dL_law_39 (by decide) (by decide) (by decide) (by decide) ?_
      exact bk_L_law_1245 C Y (lv_sub hl [0, 1, 2, 3, 4] rfl) hlt hX hXs hbl hbA hret hJ23 hv
    replace hv := hv.2 h17_39
    by_cases h18_39 : t_1 = 18
    · have hv := hv.1 h18_39
      rw [h18_39]
      refine lv_tableIn (off := 1262) (tgt := 1301) hx hb dL_law_39 (by decide) (by decide) (by decide) (by decide) ?_
      exact bk_L_law_1301 C Y (lv_sub hl [0, 1, 2, 3, 4] rfl) hlt hX hXs hbl hbA hret hJ23 hv
    replace hv := hv.2 h18_39
    by_cases h19_39 : t_1 = 19
    · have hv := hv.1 h19_39
      rw [h19_39]
      refine lv_tableIn (off := 1298) (tgt := 1337) hx hb dL_law_39 (by decide) (by decide) (by decide) (by decide) ?_
      exact bk_L_law_1337 C Y (lv_sub hl [0, 1, 2, 3, 4] rfl) hlt hX hXs hbl hbA hret hJ23 hv
    replace hv := hv.2 h19_39
    by_cases h20_39 : t_1 = 20
    · have hv := hv.1 h20_39
      rw [h20_39]
      refine lv_tableIn (off := 1311) (tgt := 1350) hx hb dL_law_39 (by decide) (by decide) (by decide) (by decide) ?_
      exact bk_L_law_1350 C Y (lv_sub hl [0, 1, 2, 3, 4] rfl) hlt hX hXs hbl hbA hret hJ23 hv
    replace hv := hv.2 h20_39
    refine lv_tableOut (tgt := 1375) hx hb dL_law_39 (by have q0 := lv_neT h0_39 (a := 0) (by decide); have q1 := lv_neT h1_39 (a := 1) (by decide); have q2 := lv_neT h2_39 (a := 2) (by decide); have q3 := lv_neT h3_39 (a := 3) (by decide); have q4 := lv_neT h4_39 (a := 4) (by decide); have q5 := lv_neT h5_39 (a := 5) (by decide); have q6 := lv_neT h6_39 (a := 6) (by decide); have q7 := lv_neT h7_39 (a := 7) (by decide); have q8 := lv_neT h8_39 (a := 8) (by decide); have q9 := lv_neT h9_39 (a := 9) (by decide); have q10 := lv_neT h10_39 (a := 10) (by decide); have q11 := lv_neT h11_39 (a := 11) (by decide); have q12 := lv_neT h12_39 (a := 12) (by decide); have q13 := lv_neT h13_39 (a := 13) (by decide); have q14 := lv_neT h14_39 (a := 14) (by decide); have q15 := lv_neT h15_39 (a := 15) (by decide); have q16 := lv_neT h16_39 (a := 16) (by decide); have q17 := lv_neT h17_39 (a := 17) (by decide); have q18 := lv_neT h18_39 (a := 18) (by decide); have q19 := lv_neT h19_39 (a := 19) (by decide); have q20 := lv_neT h20_39 (a := 20) (by decide); omega) (by decide) ?_
    obtain ⟨x4_2, ex4_2, hv⟩ := z_nv hv
    refine lv_iinc (v := x4_2) (lv' := [(4, .int x4_2), (0, .ref b), (1, .ref (a 6 99)), (2, .ref (a 7 99)), (3, .ref (a 8 0))]) hx hb dL_law_1375 hl (k := 4) rfl (by rw [ex4_2]; rfl) (by decide) rfl (fun ls hl => ?_)
    refine lv_goto (tgt := 23) hx hb dL_law_1378 (by decide) ?_
    exact hJ23 _ _ _ _ _ _ _ _ _ _ _ _ _ _ hv Y (lv_sub hl [1, 2, 3, 4, 0] rfl)

end
