/-! the cases of the law: earths -/
theorem lg_same (x : Int64) : lg_cmp x x = 0 := by
  have h : ¬ x < x := by rw [fa_lt64]; omega
  simp [lg_cmp, h]
theorem z_fin {x4 x5 b : Int32} {v : zSt} {o : Int64} {J : Int32 → zSt → Prop} (hk : v.1 0 = x5) (hv : x5 = 0 → o = b.toInt64) (hJ : J (x4 + 5) v) : ∀ x6 : Int32, x6 = b → TX7_thrown (fun (r : Int32) (u : zSt) => (r = x5 → (x5 = (0 : Int32) → ((lg_cmp o ((x6 : Int32).toInt64)) = (0 : Int32) → ∀ y : Int32, y = x4 + 5 → J y u) ∧ (¬ (lg_cmp o ((x6 : Int32).toInt64)) = (0 : Int32) → False)) ∧ (¬ x5 = (0 : Int32) → ∀ y : Int32, y = x4 + 5 → J y u)) ∧ (¬ r = x5 → False)) v := by
  rintro _ rfl
  refine ⟨fun _ => ⟨fun h => ⟨fun _ => ?_, fun g => g ?_⟩, fun _ => ?_⟩, fun h => h hk⟩
  · rintro _ rfl; exact hJ
  · rw [hv h]; exact lg_same _
  · rintro _ rfl; exact hJ
def vE (p1 p2 p3 p4 : Int32) : Prop := 0 ≤ p1.toInt ∧ p1.toInt ≤ p2.toInt ∧ p2.toInt ≤ 1000 ∧ 1 ≤ p3.toInt ∧ p3.toInt ≤ 1000 ∧ 0 ≤ p4.toInt ∧ p4.toInt ≤ 1000
theorem i_0 : (0 : Int32).toInt = 0 := rfl
theorem i_1 : (1 : Int32).toInt = 1 := rfl
theorem i_1000 : (1000 : Int32).toInt = 1000 := rfl
theorem i_of {x : Int32} {hi : Nat} (hh : hi < 2 ^ 31) (h0 : 0 ≤ x.toInt) (h1 : x.toInt ≤ hi) : ∃ n : Nat, n ≤ hi ∧ x = nI n := by
  rcases z_cases x 0 hi hh with ⟨n, _, h, e⟩ | h | h
  · exact ⟨n, h, e⟩
  · omega
  · omega
theorem cl_earth {Q : Int32 → (zSt × zSt × zSt × zSt × zSt × zSt) → Prop} {QX : String → (zSt × zSt × zSt × zSt × zSt × zSt) → Prop} {p1 p2 p3 p4 : Int32} {u0 u1 u2 u3 u4 u5 : zSt} {ne : Nat} (hne : ne ≤ 6) (h4 : u1.1 4 = nI ne)
    (hbad : ¬ vE p1 p2 p3 p4 → QX zIAE (u0, u1, u2, u3, u4, u5)) (hfull : vE p1 p2 p3 p4 → ne = 6 → QX zUOE (u0, u1, u2, u3, u4, u5))
    (hok : vE p1 p2 p3 p4 → ne < 6 → Q (nI ne) (u0, zI (zA (zA (zA (zA u1 0 (upd (u1.2 0) ne p1)) 1 (upd (u1.2 1) ne p2)) 2 (upd (u1.2 2) ne p3)) 3 (upd (u1.2 3) ne p4)) 4 (nI (ne + 1)), u2, u3, u4, u5)) : TX6_earth Q QX p1 p2 p3 p4 u0 u1 u2 u3 u4 u5 := by
  unfold TX6_earth wp_X6_earth_0
  have bad : ¬ vE p1 p2 p3 p4 → wp_X6_earth_31 Q QX u0 u1 u2 u3 u4 u5 := hbad
  have hc : (nI ne).toNatClampNeg = ne := nI_clamp (by omega)
  refine t_span (fun a1 => ⟨fun h => absurd h (by decide), fun _ => ?_⟩) (fun a1 => ⟨fun _ => bad (fun h => a1 ⟨h.1, h.2.1, h.2.2.1⟩), fun h => absurd rfl h⟩)
  refine t_within (fun a2 => ⟨fun h => absurd h (by decide), fun _ => ?_⟩) (fun a2 => ⟨fun _ => bad (fun h => a2 ⟨h.2.2.2.1, h.2.2.2.2.1⟩), fun h => absurd rfl h⟩)
  refine t_within (fun a3 => ⟨fun h => absurd h (by decide), fun _ => ?_⟩) (fun a3 => ⟨fun _ => bad (fun h => a3 ⟨h.2.2.2.2.2.1, h.2.2.2.2.2.2⟩), fun h => absurd rfl h⟩)
  have ok : vE p1 p2 p3 p4 := ⟨a1.1, a1.2.1, a1.2.2, a2.1, a2.2, a3.1, a3.2⟩
  rw [h4, show (6 : Int32) = nI 6 from rfl, nI_ltI (by omega) (by omega)]
  refine ⟨fun h => ?_, fun h => hfull ok (by omega)⟩
  unfold TX1_add wp_X1_add_0
  have hin : vp_in (nI ne) 6 := vp_in_nI (by omega) (by omega)
  rw [h4]
  rintro _ rfl
  rw [hc]
  refine ⟨hin, ?_⟩
  rintro _ rfl
  refine ⟨hin, ?_⟩
  rintro _ rfl
  refine ⟨hin, ?_⟩
  rintro _ rfl
  refine ⟨hin, ?_⟩
  rintro _ rfl _ rfl
  have := hok ok h
  rw [← nI_1, ← h4] at this
  rw [← h4] at *
  exact this
theorem ml_earth {Q : Int32 → zSt → Prop} {p1 p2 p3 p4 : Int32} {u : zSt} {ne : Nat} (hne : ne ≤ 6) (h6 : u.1 6 = nI ne)
    (hbad : ¬ vE p1 p2 p3 p4 → Q 0 (zI (zI u 0 0) 0 1)) (hfull : vE p1 p2 p3 p4 → ne = 6 → Q 0 (zI (zI u 0 0) 0 2))
    (hok : vE p1 p2 p3 p4 → ne < 6 → Q (nI ne) (zI (zA (zA (zA (zA (zI u 0 0) 2 (upd (u.2 2) ne p1)) 3 (upd (u.2 3) ne p2)) 4 (upd (u.2 4) ne p3)) 5 (upd (u.2 5) ne p4)) 6 (nI (ne + 1)))) : TX7_earth Q p1 p2 p3 p4 u := by
  unfold TX7_earth wp_X7_earth_0
  rintro _ rfl
  have hc : (nI ne).toNatClampNeg = ne := nI_clamp (by omega)
  have bad : ¬ vE p1 p2 p3 p4 → wp_X7_earth_45 Q p1 p2 p3 p4 (zI u 0 0) := by
    intro h
    unfold wp_X7_earth_45 wp_X7_earth_50
    exact t_throws1 ⟨fun h => absurd h (by decide), fun _ => hbad h⟩
  rw [fa_lt, fa_lt, fa_lt, i_0, i_1000]
  refine ⟨fun h => bad (fun g => by have := g.1; omega), fun a1 => ⟨fun h => bad (fun g => by have := g.2.1; omega), fun a2 => ⟨fun h => bad (fun g => by have := g.2.2.1; omega), fun a3 => ?_⟩⟩⟩
  refine t_in (fun a4 => ⟨fun h => absurd h (by decide), fun _ => ?_⟩) (fun a4 => ⟨fun _ => bad (fun h => a4 ⟨h.2.2.2.1, h.2.2.2.2.1⟩), fun h => absurd rfl h⟩)
  refine t_in (fun a5 => ⟨fun h => absurd h (by decide), fun _ => ?_⟩) (fun a5 => ⟨fun _ => bad (fun h => a5 ⟨h.2.2.2.2.2.1, h.2.2.2.2.2.2⟩), fun h => absurd rfl h⟩)
  have ok : vE p1 p2 p3 p4 := ⟨by omega, by omega, by omega, a4.1, a4.2, a5.1, a5.2⟩
  unfold wp_X7_earth_50
  refine t_throws0 ⟨fun _ => ?_, fun h => absurd rfl h⟩
  have e6 : (zI u 0 0).1 6 = nI ne := h6
  rw [e6, show (6 : Int32) = nI 6 from rfl, nI_eq (by omega) (by omega)]
  refine ⟨fun h => ?_, fun h => ?_⟩
  · unfold wp_X7_earth_72
    exact t_throws1 ⟨fun h => absurd h (by decide), fun _ => hfull ok h⟩
  · unfold wp_X7_earth_72
    have hin : vp_in (nI ne) 6 := vp_in_nI (by omega) (by omega)
    refine t_throws0 ⟨fun _ => ?_, fun h => absurd rfl h⟩
    refine ⟨by rw [e6]; exact hin, ?_⟩
    rintro _ rfl
    refine ⟨by show vp_in (u.1 6) 6; rw [h6]; exact hin, ?_⟩
    rintro _ rfl
    refine ⟨by show vp_in (u.1 6) 6; rw [h6]; exact hin, ?_⟩
    rintro _ rfl
    refine ⟨by show vp_in (u.1 6) 6; rw [h6]; exact hin, ?_⟩
    rintro _ rfl _ rfl
    have := hok ok (by omega)
    show Q (u.1 6 + 1 - 1) (zI (zA (zA (zA (zA (zI u 0 0) 2 (upd (u.2 2) (u.1 6).toNatClampNeg p1)) 3 (upd (u.2 3) (u.1 6).toNatClampNeg p2)) 4 (upd (u.2 4) (u.1 6).toNatClampNeg p3)) 5 (upd (u.2 5) (u.1 6).toNatClampNeg p4)) 6 (u.1 6 + 1))
    rw [h6, hc, nI_1, show nI (ne + 1) - 1 = nI ne from nI_pred ne]
    exact this
set_option maxHeartbeats 2000000 in
theorem cs_136 {L : Nat} {xs : Nat → Int32} {J23 : Int32 → Nat → Nat → zSt → zSt → zSt → zSt → zSt → zSt → zSt → (Nat → Int64) → Prop} {x4 : Int32} {cs sl : Nat} {u0 u1 u2 u3 u4 u5 u7 : zSt} {u8 : Nat → Int64} (hb : cs + 1 ≤ 601024 ∧ sl + 6 ≤ 7293034) (hi : vp_in (x4 + 1) L ∧ vp_in (x4 + 2) L ∧ vp_in (x4 + 3) L ∧ vp_in (x4 + 4) L) (hR : rAll u1 u2 u3 u4 u5 u7) (hJ : ∀ (cs' sl' : Nat) (v0 v1 v2 v3 v4 v5 v7 : zSt) (v8 : Nat → Int64), cs' ≤ cs + 1 → sl' ≤ sl + 6 → rAll v1 v2 v3 v4 v5 v7 → J23 (x4 + 5) cs' sl' v0 v1 v2 v3 v4 v5 v7 v8) : wp_L_law_136 L xs J23 x4 cs sl u0 u1 u2 u3 u4 u5 u7 u8 := by
  obtain ⟨⟨ne, lo, hi', pc, ha, hne, hx, e4, e0, e1, e2, e3, m6, m2, m3, m4, m5⟩, hL, hT, hG, hM⟩ := id hR
  unfold wp_L_law_136 TL_earth
  refine ⟨hb, hi.1, hi.2.1, hi.2.2.1, hi.2.2.2, ?_⟩
  generalize xs (x4 + 1).toNatClampNeg = p1
  generalize xs (x4 + 2).toNatClampNeg = p2
  generalize xs (x4 + 3).toNatClampNeg = p3
  generalize xs (x4 + 4).toNatClampNeg = p4
  refine cl_earth hne e4 (fun g => Or.inl ⟨rfl, ?_⟩) (fun g gn => Or.inr ⟨rfl, ?_⟩) (fun g gn => ?_)
  · rintro _ rfl
    refine ⟨hi.1, hi.2.1, hi.2.2.1, hi.2.2.2, ?_⟩
    refine ml_earth hne m6 (fun _ => z_fin rfl (fun h => absurd h (by decide)) ?_) (fun q => absurd q g) (fun q => absurd q g)
    exact hJ _ _ _ _ _ _ _ _ _ _ (by omega) (by omega) ((hR.t 0).t 1)
  · rintro _ rfl
    refine ⟨hi.1, hi.2.1, hi.2.2.1, hi.2.2.2, ?_⟩
    refine ml_earth hne m6 (fun q => absurd g q) (fun _ _ => z_fin rfl (fun h => absurd h (by decide)) ?_) (fun _ q => absurd gn (by omega))
    exact hJ _ _ _ _ _ _ _ _ _ _ (by omega) (by omega) ((hR.t 0).t 2)
  · rintro _ rfl
    refine ⟨hi.1, hi.2.1, hi.2.2.1, hi.2.2.2, ?_⟩
    refine ml_earth hne m6 (fun q => absurd g q) (fun _ q => absurd gn (by omega)) (fun _ _ => z_fin rfl (fun _ => rfl) ?_)
    refine hJ _ _ _ _ _ _ _ _ _ _ (by omega) (by omega) ⟨?_, hL.k ⟨rfl, rfl, rfl, rfl, rfl, rfl, rfl, rfl, rfl⟩, hT.k ⟨rfl, rfl, rfl, rfl, rfl, rfl, rfl⟩, hG.k ⟨rfl, rfl, rfl, rfl, rfl⟩, hM.k ⟨rfl, rfl, rfl, rfl⟩⟩
    obtain ⟨g1, g2, g3, g4, g5, g6, g7⟩ := g
    obtain ⟨n1, b1, rfl⟩ := i_of (x := p1) (hi := 1000) (by decide) (by omega) (by omega)
    obtain ⟨n2, b2, rfl⟩ := i_of (x := p2) (hi := 1000) (by decide) (by omega) (by omega)
    obtain ⟨n3, b3, rfl⟩ := i_of (x := p3) (hi := 1000) (by decide) (by omega) (by omega)
    obtain ⟨n4, b4, rfl⟩ := i_of (x := p4) (hi := 1000) (by decide) (by omega) (by omega)
    refine ⟨ne + 1, zUp lo ne n1, zUp hi' ne n2, zUp pc ne n3, zUp ha ne n4, by omega, ?_, rfl, ?_, ?_, ?_, ?_, rfl, ?_, ?_, ?_, ?_⟩
    · intro i
      have := hx i
      simp only [zUp]
      split <;> omega
    · show upd (u1.2 0) ne (nI n1) = _; rw [e0, zN_upd]
    · show upd (u1.2 1) ne (nI n2) = _; rw [e1, zN_upd]
    · show upd (u1.2 2) ne (nI n3) = _; rw [e2, zN_upd]
    · show upd (u1.2 3) ne (nI n4) = _; rw [e3, zN_upd]
    · show upd (u7.2 2) ne (nI n1) = _; rw [m2, zN_upd]
    · show upd (u7.2 3) ne (nI n2) = _; rw [m3, zN_upd]
    · show upd (u7.2 4) ne (nI n3) = _; rw [m4, zN_upd]
    · show upd (u7.2 5) ne (nI n4) = _; rw [m5, zN_upd]
