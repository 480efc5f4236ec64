/-! the cases of the law: trial, undo, days, slats, ungrade, change, job, on, count -/
section ZE1
variable {Q : Int32 → (zSt × zSt × zSt × zSt × zSt × zSt) → Prop} {QV : (zSt × zSt × zSt × zSt × zSt × zSt) → Prop} {QX : String → (zSt × zSt × zSt × zSt × zSt × zSt) → Prop} {QM : Int32 → zSt → Prop} {QN : zSt → Prop} {p1 p2 p3 p4 : Int32} {u0 u1 u2 u3 u4 u5 u w : zSt} {ne nl nb nt td nj : Nat}
theorem z_fin2 {x4 x5 : Int32} {v : zSt} {J : Int32 → zSt → Prop} (hk : v.1 0 = x5) (hJ : J (x4 + 5) v) : TX7_thrown (fun (r : Int32) (u : zSt) => (r = x5 → ∀ y : Int32, y = x4 + 5 → J y u) ∧ (¬ r = x5 → False)) v := by
  refine ⟨fun _ => ?_, fun h => h hk⟩
  rintro _ rfl
  exact hJ
theorem t_inN {Q : Int32 → Unit → Prop} {v b : Int32} {n : Nat} (hn : n < 2 ^ 30) (hb : b = nI n) (h1 : vN n v → Q 1 ()) (h0 : ¬ vN n v → Q 0 ()) : TX7_in Q v 0 (b - 1) := by
  have z : (0 : Int32).toInt = 0 := rfl
  have e : (b - 1).toInt = (n : Int) - 1 := by
    rw [hb, show (1 : Int32) = nI 1 from rfl, pk_sub_toInt (by omega) (by omega)]; rfl
  exact t_in (fun h => h1 ⟨by omega, by omega⟩) (fun h => h0 (fun g => h (by unfold vN at g; omega)))
theorem cl_trial (hb : nb ≤ 60) (ht : nt ≤ 100) (h7 : u3.1 7 = nI nb) (h4 : u5.1 4 = nI nt) (hno : ¬ vN nb p1 → QX zIOB (u0, u1, u2, u3, u4, u5)) (hfull : vN nb p1 → nt = 100 → Q (-1) (u0, u1, u2, u3, u4, u5))
    (hok : vN nb p1 → nt < 100 → Q (nI nt) (u0, u1, u2, u3, u4, zI (zA (zA (zA (zA u5 0 (upd (u5.2 0) nt p1)) 1 (upd (u5.2 1) nt (vp_nar .boolean p2))) 2 (upd (u5.2 2) nt (u5.1 5))) 3 (upd (u5.2 3) nt (-1))) 4 (nI (nt + 1)))) : TX6_trial Q QX p1 p2 u0 u1 u2 u3 u4 u5 := by
  unfold TX6_trial wp_X6_trial_0
  have hn : (nI nb).toInt = nb := nI_toInt (by omega)
  rw [h7]
  refine t_number (fun a1 => ⟨fun h => absurd h (by decide), fun _ => ?_⟩) (fun a1 => ⟨fun _ => hno (fun g => a1 (by unfold vN at g; omega)), fun h => absurd rfl h⟩)
  have A : vN nb p1 := ⟨a1.1, by omega⟩
  rw [h4]
  refine pk_lt nt 100 (fun h => ?_) (fun h => hfull A (by omega))
  unfold TX5_add wp_X5_add_0
  have hin : vp_in (nI nt) 100 := vp_in_nI (by omega) (by omega)
  have hc : (nI nt).toNatClampNeg = nt := nI_clamp (by omega)
  rw [h4]
  rintro _ rfl
  rw [hc]
  refine ⟨hin, ?_⟩
  rintro _ rfl
  refine ⟨hin, ?_⟩
  rintro _ rfl
  refine ⟨hin, ?_⟩
  rintro _ rfl
  refine ⟨hin, ?_⟩
  rintro _ rfl _ rfl
  show Q (nI nt) (u0, u1, u2, u3, u4, zI (zA (zA (zA (zA u5 0 (upd (u5.2 0) nt p1)) 1 (upd (u5.2 1) nt (vp_nar .boolean p2))) 2 (upd (u5.2 2) nt (u5.1 5))) 3 (upd (u5.2 3) nt (-1))) 4 (u5.1 4 + 1))
  rw [h4, nI_1]
  exact hok A h
theorem ml_trial (hb : nb ≤ 60) (ht : nt ≤ 100) (h7 : u.1 19 = nI nb) (h4 : u.1 25 = nI nt) (hno : ¬ vN nb p1 → QM 0 (zI (zI u 0 0) 0 1)) (hfull : vN nb p1 → nt = 100 → QM (-1) (zI u 0 0))
    (hok : vN nb p1 → nt < 100 → QM (nI nt) (zI (zA (zA (zA (zA (zI u 0 0) 21 (upd (u.2 21) nt p1)) 22 (upd (u.2 22) nt (vp_nar .boolean p2))) 23 (upd (u.2 23) nt (u.1 1))) 24 (upd (u.2 24) nt (-1))) 25 (nI (nt + 1)))) : TX7_trial QM p1 p2 u := by
  unfold TX7_trial wp_X7_trial_0
  rintro _ rfl
  refine t_inN (n := nb) (by omega) h7 (fun A => ⟨fun h => absurd h (by decide), fun _ => ?_⟩) (fun A => ⟨fun _ => ?_, fun h => absurd rfl h⟩)
  · unfold wp_X7_trial_25
    refine t_throws0 ⟨fun _ => ?_, fun h => absurd rfl h⟩
    refine pk_eq nt 100 (fun h => hfull A h) (fun h => ?_) (hx := h4)
    have hin : vp_in (u.1 25) 100 := by rw [h4]; exact vp_in_nI (by omega) (by omega)
    have hc : (u.1 25).toNatClampNeg = nt := by rw [h4]; exact nI_clamp (by omega)
    refine ⟨hin, ?_⟩
    rintro _ rfl
    refine ⟨hin, ?_⟩
    rintro _ rfl
    refine ⟨hin, ?_⟩
    rintro _ rfl
    refine ⟨hin, ?_⟩
    rintro _ rfl _ rfl
    show QM (u.1 25 + 1 - 1) (zI (zA (zA (zA (zA (zI u 0 0) 21 (upd (u.2 21) (u.1 25).toNatClampNeg p1)) 22 (upd (u.2 22) (u.1 25).toNatClampNeg (vp_nar .boolean p2))) 23 (upd (u.2 23) (u.1 25).toNatClampNeg (u.1 1))) 24 (upd (u.2 24) (u.1 25).toNatClampNeg (-1))) 25 (u.1 25 + 1))
    rw [hc, h4, nI_1, nI_pred]
    exact hok A (by omega)
  · unfold wp_X7_trial_25
    exact t_throws1 ⟨fun h => absurd h (by decide), fun _ => hno A⟩
end ZE1
theorem rT_add {u5 v : zSt} {nb nt : Nat} {p1 p2 : Int32} (hT : rT u5 v) (h19 : v.1 19 = nI nb) (hnb : nb ≤ 60) (h4 : u5.1 4 = nI nt) (hnt : nt < 100) (hp : vN nb p1) (hp2 : p2 = 0 ∨ p2 = 1) : rT (zI (zA (zA (zA (zA u5 0 (upd (u5.2 0) nt p1)) 1 (upd (u5.2 1) nt (vp_nar .boolean p2))) 2 (upd (u5.2 2) nt (u5.1 5))) 3 (upd (u5.2 3) nt (-1))) 4 (nI (nt + 1))) (zI (zA (zA (zA (zA v 21 (upd (v.2 21) nt p1)) 22 (upd (v.2 22) nt (vp_nar .boolean p2))) 23 (upd (v.2 23) nt (v.1 1))) 24 (upd (v.2 24) nt (-1))) 25 (nI (nt + 1))) := by
  obtain ⟨nb', nt', td, tb, q1, q2, q3, q4, q5, q6, q7, q8, q9, q10, q11, q12, q13, q14, q15, q16⟩ := hT
  have : nb' = nb := (nI_eq (by omega) (by omega)).mp (q4.symm.trans h19)
  subst this
  have : nt' = nt := (nI_eq (by omega) (by omega)).mp (q5.symm.trans h4)
  subst this
  obtain ⟨hp0, hp1⟩ := hp
  obtain ⟨b, hb, rfl⟩ := i_of (x := p1) (hi := 59) (by decide) (by omega) (by omega)
  rw [nI_toInt (by omega)] at hp1
  have hn : vp_nar .boolean p2 = 0 ∨ vp_nar .boolean p2 = 1 := by
    rcases hp2 with rfl | rfl
    · left; rfl
    · right; rfl
  refine ⟨nb', nt' + 1, td, zUp tb nt' b, q1, by omega, q3, q4, rfl, rfl, q7, q8, ?_, ?_, ?_, ?_, ?_, ?_, ?_, ?_⟩
  · show upd (u5.2 0) _ _ = _; rw [q9, zN_upd]
  · show upd (v.2 21) _ _ = _; rw [q10, zN_upd]
  · intro t ht
    unfold zUp
    split
    · omega
    · exact q11 t (by omega)
  · show upd (u5.2 1) _ _ = upd (v.2 22) _ _; rw [q12]
  · intro t
    show upd (u5.2 1) nt' _ t = 0 ∨ upd (u5.2 1) nt' _ t = 1
    by_cases h : t = nt'
    · rw [h, pk_us]; exact hn
    · rw [pk_un h]; exact q13 t
  · show upd (u5.2 2) _ (u5.1 5) = upd (v.2 23) _ (v.1 1); rw [q14, q7, q8]
  · show upd (u5.2 3) _ _ = upd (v.2 24) _ _; rw [q15]
  · intro t ht
    show upd (u5.2 3) nt' _ t = -1 ∨ 0 ≤ (upd (u5.2 3) nt' _ t).toInt
    by_cases h : t = nt'
    · rw [h, pk_us]; left; rfl
    · rw [pk_un h]; exact q16 t (by omega)
set_option maxHeartbeats 2000000 in
theorem cs_740 {L : Nat} {xs : Nat → Int32} {J23 : Int32 → Nat → Nat → zSt → zSt → zSt → zSt → zSt → zSt → zSt → (Nat → Int64) → Prop} {x4 : Int32} {cs sl : Nat} {u0 u1 u2 u3 u4 u5 u7 : zSt} {u8 : Nat → Int64} (hb : cs + 3 ≤ 601024 ∧ sl + 18 ≤ 7293034) (hi : vp_in (x4 + 1) L ∧ vp_in (x4 + 2) L ∧ vp_in (x4 + 3) L ∧ vp_in (x4 + 4) L) (hR : rAll u1 u2 u3 u4 u5 u7) (hJ : ∀ (cs' sl' : Nat) (v0 v1 v2 v3 v4 v5 v7 : zSt) (v8 : Nat → Int64), cs' ≤ cs + 1 → sl' ≤ sl + 6 → rAll v1 v2 v3 v4 v5 v7 → J23 (x4 + 5) cs' sl' v0 v1 v2 v3 v4 v5 v7 v8) : wp_L_law_740 L xs J23 x4 cs sl u0 u1 u2 u3 u4 u5 u7 u8 := by
  obtain ⟨hE, hL, hT, hG, hM⟩ := id hR
  obtain ⟨nl, nb, mk, hl, hnb, hmk, l5, l17, l7, m19, -⟩ := id hL
  obtain ⟨nb', nt, td, tb, -, ht, -, -, t4, t25, -⟩ := id hT
  have both : ∀ b : Int32, (b = 0 ∨ b = 1) → ((b = 0 ∧ xs (x4 + 2).toNatClampNeg = 0) ∨ (b = 1 ∧ ¬ xs (x4 + 2).toNatClampNeg = 0)) → wp_L_law_761 L xs J23 x4 b (xs (x4 + 1).toNatClampNeg) cs sl u0 u1 u2 u3 u4 u5 u7 u8 := by
    intro b hb2 hx
    have pick : ∀ (x5 : Int32) (v0 v1 v2 v3 v4 v5 : zSt) (v8 : Nat → Int64), wp_L_law_788 L xs J23 x4 x5 b (xs (x4 + 1).toNatClampNeg) (cs + 1) (sl + 6) v0 v1 v2 v3 v4 v5 u7 v8 → (xs (x4 + 2).toNatClampNeg = 0 → wp_L_law_788 L xs J23 x4 x5 0 (xs (x4 + 1).toNatClampNeg) (cs + 1) (sl + 6) v0 v1 v2 v3 v4 v5 u7 v8) ∧ (¬ xs (x4 + 2).toNatClampNeg = 0 → wp_L_law_788 L xs J23 x4 x5 1 (xs (x4 + 1).toNatClampNeg) (cs + 1) (sl + 6) v0 v1 v2 v3 v4 v5 u7 v8) := by
      intro x5 v0 v1 v2 v3 v4 v5 v8 h
      rcases hx with ⟨e, g⟩ | ⟨e, g⟩
      · rw [e] at h; exact ⟨fun _ => h, fun q => absurd g q⟩
      · rw [e] at h; exact ⟨fun q => absurd q g, fun _ => h⟩
    unfold wp_L_law_761 TL_trial
    refine ⟨⟨by omega, by omega⟩, cl_trial hnb ht l7 t4 (fun g => ⟨rfl, ?_⟩) (fun g g2 => ?_) (fun g g2 => ?_)⟩
    · rintro _ rfl
      refine ⟨hi.1, hi.2.1, pick _ _ _ _ _ _ _ _ ?_⟩
      unfold wp_L_law_788
      refine ⟨⟨by omega, by omega⟩, ml_trial hnb ht m19 t25 (fun _ => z_fin rfl (fun h => absurd h (by decide)) ?_) (fun q => absurd q g) (fun q => absurd q g)⟩
      exact hJ _ _ _ _ _ _ _ _ _ _ (by omega) (by omega) ((hR.t 0).t 1)
    · rintro _ rfl
      refine ⟨hi.1, hi.2.1, pick _ _ _ _ _ _ _ _ ?_⟩
      unfold wp_L_law_788
      refine ⟨⟨by omega, by omega⟩, ml_trial hnb ht m19 t25 (fun q => absurd g q) (fun _ _ => z_fin rfl (fun _ => rfl) ?_) (fun _ q => absurd g2 (by omega))⟩
      exact hJ _ _ _ _ _ _ _ _ _ _ (by omega) (by omega) (hR.t 0)
    · rintro _ rfl
      refine ⟨hi.1, hi.2.1, pick _ _ _ _ _ _ _ _ ?_⟩
      unfold wp_L_law_788
      refine ⟨⟨by omega, by omega⟩, ml_trial hnb ht m19 t25 (fun q => absurd g q) (fun _ q => absurd g2 (by omega)) (fun _ _ => z_fin rfl (fun _ => rfl) ?_)⟩
      obtain ⟨kE, kL, kT, kG, kM⟩ := hR.t 0
      exact hJ _ _ _ _ _ _ _ _ _ _ (by omega) (by omega) ⟨kE.k ⟨rfl, rfl, rfl, rfl, rfl⟩, kL.k ⟨rfl, rfl, rfl, rfl, rfl, rfl, rfl, rfl, rfl⟩, rT_add kT m19 hnb t4 g2 g hb2, kG.k ⟨rfl, rfl, rfl, rfl, rfl⟩, kM.k ⟨rfl, rfl, rfl, rfl⟩⟩
  unfold wp_L_law_740
  exact ⟨⟨by omega, by omega⟩, hi.1, hi.2.1, fun h => both 0 (Or.inl rfl) (Or.inl ⟨rfl, h⟩), fun h => both 1 (Or.inr rfl) (Or.inr ⟨rfl, h⟩)⟩
section ZE2
variable {Q : Int32 → (zSt × zSt × zSt × zSt × zSt × zSt) → Prop} {QV : (zSt × zSt × zSt × zSt × zSt × zSt) → Prop} {QX : String → (zSt × zSt × zSt × zSt × zSt × zSt) → Prop} {QM : Int32 → zSt → Prop} {QN : zSt → Prop} {p1 p2 p3 p4 : Int32} {u0 u1 u2 u3 u4 u5 u w : zSt} {ne nl nb nt td nj : Nat}
theorem cl_undo (ht : nt ≤ 100) (h4 : u5.1 4 = nI nt) (hno : ¬ vN nt p1 → QX zIOB (u0, u1, u2, u3, u4, u5)) (hback : vN nt p1 → ¬ u5.2 3 p1.toNatClampNeg = -1 → Q 0 (u0, u1, u2, u3, u4, u5))
    (hok : vN nt p1 → u5.2 3 p1.toNatClampNeg = -1 → Q 1 (u0, u1, u2, u3, u4, zA u5 3 (upd (u5.2 3) p1.toNatClampNeg (u5.1 5)))) : TX6_undo Q QX p1 u0 u1 u2 u3 u4 u5 := by
  unfold TX6_undo wp_X6_undo_0
  have hn : (nI nt).toInt = nt := nI_toInt (by omega)
  rw [h4]
  refine t_number (fun a1 => ⟨fun h => absurd h (by decide), fun _ => ?_⟩) (fun a1 => ⟨fun _ => hno (fun g => a1 (by unfold vN at g; omega)), fun h => absurd rfl h⟩)
  have A : vN nt p1 := ⟨a1.1, by omega⟩
  unfold TX5_takeBack wp_X5_takeBack_0
  refine ⟨v_in A ht, fun h => ⟨v_in A ht, ?_⟩, fun h => ⟨Or.inl rfl, hback A h⟩⟩
  rintro _ rfl
  exact ⟨Or.inr rfl, hok A h⟩
theorem ml_undo (ht : nt ≤ 100) (h4 : u.1 25 = nI nt) (hno : ¬ vN nt p1 → QM 0 (zI (zI u 0 0) 0 1)) (hback : vN nt p1 → ¬ u.2 24 p1.toNatClampNeg < 0 → QM 0 (zI u 0 0))
    (hok : vN nt p1 → u.2 24 p1.toNatClampNeg < 0 → QM 1 (zA (zI u 0 0) 24 (upd (u.2 24) p1.toNatClampNeg (u.1 1)))) : TX7_undo QM p1 u := by
  unfold TX7_undo wp_X7_undo_0
  rintro _ rfl
  refine t_inN (n := nt) (by omega) h4 (fun A => ⟨fun h => absurd h (by decide), fun _ => ?_⟩) (fun A => ⟨fun _ => ?_, fun h => absurd rfl h⟩)
  · unfold wp_X7_undo_25
    refine t_throws0 ⟨fun _ => ⟨v_in A ht, fun h => ⟨v_in A ht, ?_⟩, fun h => hback A h⟩, fun h => absurd rfl h⟩
    rintro _ rfl
    exact hok A h
  · unfold wp_X7_undo_25
    exact t_throws1 ⟨fun h => absurd h (by decide), fun _ => hno A⟩
end ZE2
set_option maxHeartbeats 2000000 in
theorem cs_824 {L : Nat} {xs : Nat → Int32} {J23 : Int32 → Nat → Nat → zSt → zSt → zSt → zSt → zSt → zSt → zSt → (Nat → Int64) → Prop} {x4 : Int32} {cs sl : Nat} {u0 u1 u2 u3 u4 u5 u7 : zSt} {u8 : Nat → Int64} (hb : cs + 3 ≤ 601024 ∧ sl + 18 ≤ 7293034) (hi : vp_in (x4 + 1) L ∧ vp_in (x4 + 2) L ∧ vp_in (x4 + 3) L ∧ vp_in (x4 + 4) L) (hR : rAll u1 u2 u3 u4 u5 u7) (hJ : ∀ (cs' sl' : Nat) (v0 v1 v2 v3 v4 v5 v7 : zSt) (v8 : Nat → Int64), cs' ≤ cs + 1 → sl' ≤ sl + 6 → rAll v1 v2 v3 v4 v5 v7 → J23 (x4 + 5) cs' sl' v0 v1 v2 v3 v4 v5 v7 v8) : wp_L_law_824 L xs J23 x4 cs sl u0 u1 u2 u3 u4 u5 u7 u8 := by
  obtain ⟨hE, hL, hT, hG, hM⟩ := id hR
  obtain ⟨nb, nt, td, tb, q1, q2, q3, q4, q5, q6, q7, q8, q9, q10, q11, q12, q13, q14, q15, q16⟩ := id hT
  unfold wp_L_law_824 TL_undo
  refine ⟨⟨by omega, by omega⟩, hi.1, ?_⟩
  generalize xs (x4 + 1).toNatClampNeg = p1
  have hlt : vN nt p1 → (u5.2 3 p1.toNatClampNeg = -1 ↔ u7.2 24 p1.toNatClampNeg < 0) := by
    intro ⟨a, b⟩
    obtain ⟨t, ht, rfl⟩ := i_of (x := p1) (hi := 99) (by decide) (by omega) (by omega)
    rw [nI_toInt (by omega)] at b
    rw [nI_clamp (by omega), ← q15, fa_lt]
    rcases q16 t (by omega) with h | h
    · rw [h]; exact ⟨fun _ => by decide, fun _ => rfl⟩
    · refine ⟨fun g => ?_, fun g => ?_⟩
      · rw [g] at h; exact absurd h (by decide)
      · have : (0 : Int32).toInt = 0 := rfl
        omega
  refine cl_undo q2 q5 (fun g => ⟨rfl, ?_⟩) (fun g g2 => ⟨fun _ => ?_, fun h => absurd rfl h⟩) (fun g g2 => ⟨fun h => absurd h (by decide), fun _ => ?_⟩)
  · rintro _ rfl
    refine ⟨hi.1, ml_undo q2 q6 (fun _ => ?_) (fun q => absurd q g) (fun q => absurd q g)⟩
    rintro _ rfl
    refine ⟨fun _ => ⟨fun h => absurd h (by decide), fun _ => ?_⟩, fun h => absurd rfl h⟩
    rintro _ rfl
    exact hJ _ _ _ _ _ _ _ _ _ _ (by omega) (by omega) ((hR.t 0).t 1)
  · rintro _ rfl
    refine ⟨hi.1, ml_undo q2 q6 (fun q => absurd g q) (fun _ _ => ?_) (fun _ q => absurd ((hlt g).mpr q) g2)⟩
    rintro _ rfl
    refine ⟨fun _ => ⟨fun h => ⟨fun _ => ?_, fun h => absurd rfl h⟩, fun h => absurd rfl h⟩, fun h => absurd rfl h⟩
    unfold wp_L_law_878
    refine ⟨⟨by omega, by omega⟩, fun _ => ?_, fun h => h (lg_same _)⟩
    rintro _ rfl
    exact hJ _ _ _ _ _ _ _ _ _ _ (by omega) (by omega) (hR.t 0)
  · rintro _ rfl
    refine ⟨hi.1, ml_undo q2 q6 (fun q => absurd g q) (fun _ q => absurd ((hlt g).mp g2) q) (fun _ _ => ?_)⟩
    rintro _ rfl
    refine ⟨fun _ => ⟨fun h => ⟨fun h => absurd h (by decide), fun _ => ?_⟩, fun h => absurd rfl h⟩, fun h => absurd rfl h⟩
    unfold wp_L_law_878
    refine ⟨⟨by omega, by omega⟩, fun _ => ?_, fun h => h (lg_same _)⟩
    rintro _ rfl
    obtain ⟨kE, kL, kT, kG, kM⟩ := hR.t 0
    refine hJ _ _ _ _ _ _ _ _ _ _ (by omega) (by omega) ⟨kE.k ⟨rfl, rfl, rfl, rfl, rfl⟩, kL.k ⟨rfl, rfl, rfl, rfl, rfl, rfl, rfl, rfl, rfl⟩, ?_, kG.k ⟨rfl, rfl, rfl, rfl, rfl⟩, kM.k ⟨rfl, rfl, rfl, rfl⟩⟩
    refine ⟨nb, nt, td, tb, q1, q2, q3, q4, q5, q6, q7, q8, q9, q10, q11, q12, q13, q14, ?_, ?_⟩
    · show upd (u5.2 3) _ (u5.1 5) = upd (u7.2 24) _ (u7.1 1); rw [q15, q7, q8]
    · intro t ht
      show upd (u5.2 3) p1.toNatClampNeg _ t = -1 ∨ 0 ≤ (upd (u5.2 3) p1.toNatClampNeg _ t).toInt
      by_cases h : t = p1.toNatClampNeg
      · rw [← h, pk_us, q7, nI_toInt (by omega)]; right; omega
      · rw [pk_un h]; exact q16 t (by omega)
section ZE3
variable {Q : Int32 → (zSt × zSt × zSt × zSt × zSt × zSt) → Prop} {QV : (zSt × zSt × zSt × zSt × zSt × zSt) → Prop} {QX : String → (zSt × zSt × zSt × zSt × zSt × zSt) → Prop} {QM : Int32 → zSt → Prop} {QN : zSt → Prop} {p1 p2 p3 p4 : Int32} {u0 u1 u2 u3 u4 u5 u w : zSt} {ne nl nb nt td nj : Nat}
def vD (p : Int32) : Prop := 0 ≤ p.toInt ∧ p.toInt ≤ 100
theorem cl_days (hd : td ≤ 1000) (h5 : u5.1 5 = nI td) (hno : ¬ vD p1 → QX zIAE (u0, u1, u2, u3, u4, u5)) (hok : ∀ d : Nat, vD p1 → d ≤ 1000 → d = min 1000 (td + p1.toNatClampNeg) → Q (nI d) (u0, u1, u2, u3, u4, zI u5 5 (nI d))) : TX6_days Q QX p1 u0 u1 u2 u3 u4 u5 := by
  unfold TX6_days wp_X6_days_0
  have z0 := i_0
  have z1 : (100 : Int32).toInt = 100 := rfl
  refine t_within (fun a1 => ⟨fun h => absurd h (by decide), fun _ => ?_⟩) (fun a1 => ⟨fun _ => hno (fun g => a1 (by unfold vD at g; omega)), fun h => absurd rfl h⟩)
  have A : vD p1 := ⟨by omega, by omega⟩
  obtain ⟨n, hn, rfl⟩ := i_of (x := p1) (hi := 100) (by decide) (by omega) (by omega)
  have := hok (min 1000 (td + n)) A (by omega) (by rw [nI_clamp (by omega)])
  have e : (if (1000 : Int32) < u5.1 5 + nI n then (1000 : Int32) else u5.1 5 + nI n) = nI (min 1000 (td + n)) := by
    rw [h5, nI_add, show (1000 : Int32) = nI 1000 from rfl]
    by_cases h : 1000 < td + n
    · rw [if_pos ((nI_ltI (by omega) (by omega)).mpr h)]; congr 1; omega
    · rw [if_neg (fun q => h ((nI_ltI (by omega) (by omega)).mp q))]; congr 1; omega
  rw [e]
  rintro _ rfl
  exact this
theorem ml_days (hd : td ≤ 1000) (h5 : u.1 1 = nI td) (hno : ¬ vD p1 → QM 0 (zI (zI u 0 0) 0 1)) (hok : ∀ d : Nat, vD p1 → d ≤ 1000 → d = min 1000 (td + p1.toNatClampNeg) → QM (nI d) (zI (zI u 0 0) 1 (nI d))) : TX7_days QM p1 u := by
  unfold TX7_days wp_X7_days_0
  have z0 := i_0
  have z1 : (100 : Int32).toInt = 100 := rfl
  rintro _ rfl
  refine t_in (fun a1 => ⟨fun h => absurd h (by decide), fun _ => ?_⟩) (fun a1 => ⟨fun _ => ?_, fun h => absurd rfl h⟩)
  · have A : vD p1 := ⟨by omega, by omega⟩
    obtain ⟨n, hn, rfl⟩ := i_of (x := p1) (hi := 100) (by decide) (by omega) (by omega)
    have := hok (min 1000 (td + n)) A (by omega) (by rw [nI_clamp (by omega)])
    unfold wp_X7_days_21
    refine t_throws0 ⟨fun _ => ?_, fun h => absurd rfl h⟩
    have e : (if (zI u 0 0).1 1 + nI n < (1000 : Int32) then (zI u 0 0).1 1 + nI n else (1000 : Int32)) = nI (min 1000 (td + n)) := by
      show (if u.1 1 + nI n < (1000 : Int32) then u.1 1 + nI n else (1000 : Int32)) = _
      rw [h5, nI_add, show (1000 : Int32) = nI 1000 from rfl]
      by_cases h : td + n < 1000
      · rw [if_pos ((nI_ltI (by omega) (by omega)).mpr h)]; congr 1; omega
      · rw [if_neg (fun q => h ((nI_ltI (by omega) (by omega)).mp q))]; congr 1; omega
    rw [e]
    rintro _ rfl
    exact this
  · unfold wp_X7_days_21
    exact t_throws1 ⟨fun h => absurd h (by decide), fun _ => hno (fun g => a1 (by unfold vD at g; omega))⟩
end ZE3
set_option maxHeartbeats 2000000 in
theorem cs_887 {L : Nat} {xs : Nat → Int32} {J23 : Int32 → Nat → Nat → zSt → zSt → zSt → zSt → zSt → zSt → zSt → (Nat → Int64) → Prop} {x4 : Int32} {cs sl : Nat} {u0 u1 u2 u3 u4 u5 u7 : zSt} {u8 : Nat → Int64} (hb : cs + 1 ≤ 601024 ∧ sl + 6 ≤ 7293034) (hi : vp_in (x4 + 1) L ∧ vp_in (x4 + 2) L ∧ vp_in (x4 + 3) L ∧ vp_in (x4 + 4) L) (hR : rAll u1 u2 u3 u4 u5 u7) (hJ : ∀ (cs' sl' : Nat) (v0 v1 v2 v3 v4 v5 v7 : zSt) (v8 : Nat → Int64), cs' ≤ cs + 1 → sl' ≤ sl + 6 → rAll v1 v2 v3 v4 v5 v7 → J23 (x4 + 5) cs' sl' v0 v1 v2 v3 v4 v5 v7 v8) : wp_L_law_887 L xs J23 x4 cs sl u0 u1 u2 u3 u4 u5 u7 u8 := by
  obtain ⟨hE, hL, hT, hG, hM⟩ := id hR
  obtain ⟨nb, nt, td, tb, q1, q2, q3, q4, q5, q6, q7, q8, q9, q10, q11, q12, q13, q14, q15, q16⟩ := id hT
  unfold wp_L_law_887 TL_days
  refine ⟨hb, hi.1, ?_⟩
  generalize xs (x4 + 1).toNatClampNeg = p1
  refine cl_days q3 q7 (fun g => ⟨rfl, ?_⟩) (fun d g hd ed => ?_)
  · rintro _ rfl
    refine ⟨hi.1, ml_days q3 q8 (fun _ => z_fin rfl (fun h => absurd h (by decide)) ?_) (fun _ q => absurd q g)⟩
    exact hJ _ _ _ _ _ _ _ _ _ _ (by omega) (by omega) ((hR.t 0).t 1)
  · rintro _ rfl
    refine ⟨hi.1, ml_days q3 q8 (fun q => absurd g q) (fun d' _ _ ed' => ?_)⟩
    have : d' = d := ed'.trans ed.symm
    subst this
    refine z_fin rfl (fun _ => rfl) ?_
    obtain ⟨kE, kL, kT, kG, kM⟩ := hR.t 0
    exact hJ _ _ _ _ _ _ _ _ _ _ (by omega) (by omega) ⟨kE.k ⟨rfl, rfl, rfl, rfl, rfl⟩, kL.k ⟨rfl, rfl, rfl, rfl, rfl, rfl, rfl, rfl, rfl⟩, ⟨nb, nt, d', tb, q1, q2, hd, q4, q5, q6, rfl, rfl, q9, q10, q11, q12, q13, q14, q15, q16⟩, kG.k ⟨rfl, rfl, rfl, rfl, rfl⟩, kM.k ⟨rfl, rfl, rfl, rfl⟩⟩
